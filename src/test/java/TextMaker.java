import java.util.Random;

/** Draws texts by the grammar, and now and then spoils them. */
final class TextMaker {
  private static final String[] NAMES = {"sunday", "key", "who", "heard", "roll", "place", "wear"};
  private static final String[] WORDS = {"blurs", "learns", "wears", "roll", "child", "play", "patch", "forget", "sunday",
      "key", "who", "heard", "place", "wear", "digits", "holes", "if", "then", "else", "end", "or", "and", "not", "to", "of",
      "by", "<=", ">=", "<", ">", "=", "#", "+", "-", "*", "/", "(", ")", ",", ";", "0", "5", "16", "9999", "10000", "x",
      "If", "!", "_", "\t", "\u00e9", "\u0000"};

  private final Random random;
  private final int keys;
  private final StringBuilder made = new StringBuilder();
  private String law;

  TextMaker(Random random, int keys) {
    this.random = random;
    this.keys = keys;
  }

  private int pick(int low, int high) { return low + random.nextInt(high - low + 1); }

  /** Mostly within, seldom one too many. */
  private int edge(int low, int high) { return random.nextInt(60) == 0 ? high + 1 : random.nextInt(200) == 0 ? low - 1 : pick(low, high); }

  private TextMaker put(Object part) {
    made.append(part);
    if (random.nextInt(12) == 0) made.append(random.nextBoolean() ? ' ' : '\n');
    else if (made.length() > 0 && Character.isLetterOrDigit(made.charAt(made.length() - 1))) made.append(' ');
    return this;
  }

  String make() {
    int style = random.nextInt(12);
    if (style == 0) return nest();
    if (style == 1) return many();
    String[] laws = {"blurs", "learns", "wears"};
    for (String which : laws) {
      if (random.nextInt(3) != 0) {
        law = random.nextInt(40) == 0 ? "wears" : which;
        put(law);
        sum(pick(0, 4));
        put(";");
      }
      if (random.nextInt(4) == 0) clause();
    }
    for (int i = pick(0, 5); i > 0; i--) clause();
    String text = tight();
    return random.nextInt(4) == 0 ? spoil(text) : text;
  }

  /** Blanks that part nothing are taken out mostly, as texts are short. */
  private String tight() {
    String text = made.toString();
    return random.nextInt(5) == 0 ? text : text.replaceAll(" (?=[^A-Za-z0-9 \n])", "");
  }

  private void clause() {
    switch (random.nextInt(6)) {
      case 0 -> {
        put("roll");
        int n = random.nextInt(12) == 0 ? pick(15, 17) : pick(1, 7);
        for (int i = 0; i < n; i++) {
          if (i > 0) put(",");
          put(random.nextInt(100) == 0 ? pick(5, 7) : pick(0, keys));
        }
      }
      case 1 -> put("child");
      case 2 -> put("play").put(edge(0, random.nextBoolean() ? 1 : 4)).put("to").put(edge(0, random.nextBoolean() ? 1 : 3));
      case 3 -> put("patch").put(edge(0, random.nextBoolean() ? 3 : 15)).put("of").put(edge(0, random.nextBoolean() ? 1 : 4));
      case 4 -> put("forget").put(edge(1, 5)).put("by").put(edge(0, random.nextBoolean() ? 1 : 3));
      default -> put("sunday").put(edge(1, random.nextBoolean() ? 4 : 60));
    }
    put(";");
  }

  private void sum(int depth) {
    product(depth);
    while (random.nextInt(3) == 0) {
      put(random.nextBoolean() ? "+" : "-");
      product(depth);
    }
  }

  private void product(int depth) {
    one(depth);
    while (random.nextInt(4) == 0) {
      put(random.nextBoolean() ? "*" : "/");
      one(depth);
    }
  }

  private void one(int depth) {
    switch (random.nextInt(depth > 0 ? 9 : 4)) {
      case 0 -> put(random.nextInt(6) == 0 ? edge(0, 9999) : pick(0, 12));
      case 1, 2, 3 -> name();
      case 4 -> {
        put("(");
        sum(depth - 1);
        put(")");
      }
      case 5 -> {
        put("-");
        one(depth - 1);
      }
      case 6 -> {
        put("digits");
        one(depth - 1);
      }
      case 7 -> {
        put("holes");
        one(depth - 1);
      }
      default -> {
        put("if");
        either(depth - 1);
        put("then");
        sum(depth - 1);
        put("else");
        sum(depth - 1);
        put("end");
      }
    }
  }

  private void name() {
    String name = NAMES[random.nextInt(NAMES.length)];
    boolean other = law.equals("wears") && (name.equals("who") || name.equals("heard"))
        || law.equals("learns") && (name.equals("roll") || name.equals("place") || name.equals("wear"));
    put(other && random.nextInt(30) != 0 ? "key" : name);
  }

  private void either(int depth) {
    ask(depth);
    while (random.nextInt(3) == 0) {
      put(random.nextBoolean() ? "or" : "and");
      ask(depth);
    }
  }

  private void ask(int depth) {
    if (depth > 0 && random.nextInt(4) == 0) {
      put("not");
      ask(depth - 1);
      return;
    }
    sum(depth);
    put(WORDS[26 + random.nextInt(6)]);
    sum(depth);
  }

  /** Things open around one another, about as many as may be. */
  private String nest() {
    law = "blurs";
    put(law);
    StringBuilder close = new StringBuilder();
    boolean asks = false;
    for (int i = pick(6, 10); i > 0; i--) {
      int which = random.nextInt(6);
      if (asks && which == 5) {
        put("not");
        continue;
      }
      if (which == 0) {
        put("digits");
      } else if (which == 1) {
        put("holes");
      } else if (which == 2) {
        put("-");
      } else if (which == 3) {
        put("(");
        close.insert(0, ")");
      } else {
        put("if");
        close.insert(0, "<3 then 1 else 2 end");
        asks = true;
        continue;
      }
      asks = false;
    }
    put(pick(0, 9));
    made.append(close).append(';');
    return random.nextInt(5) == 0 ? spoil(made.toString()) : made.toString();
  }

  /** About as many clauses as may be. */
  private String many() {
    for (int i = pick(22, 26); i > 0; i--) {
      int which = random.nextInt(30);
      if (which == 0) made.append("wears 1;");
      else if (which == 1) made.append("key;");
      else if (which < 15) made.append("child;");
      else made.append("sunday 1;");
    }
    return made.toString();
  }

  private String spoil(String text) {
    StringBuilder spoilt = new StringBuilder(text);
    for (int i = pick(1, 2); i > 0; i--) {
      int at = random.nextInt(spoilt.length() + 1);
      int kind = random.nextInt(4);
      if (kind == 0) spoilt.insert(at, " " + WORDS[random.nextInt(WORDS.length)] + " ");
      else if (kind == 1) spoilt.insert(at, WORDS[random.nextInt(WORDS.length)]);
      else if (kind == 2 && at < spoilt.length()) spoilt.deleteCharAt(at);
      else spoilt.setLength(at);
    }
    return spoilt.toString();
  }
}
