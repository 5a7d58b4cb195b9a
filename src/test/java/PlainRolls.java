import java.math.BigInteger;
import java.util.ArrayList;
import java.util.Arrays;
import java.util.HashMap;
import java.util.List;
import java.util.Map;

/** The document's face done in the plainest way, by trying everything: a second opinion for the tests. */
final class PlainRolls {
  static final int NONE = -1;

  static final class Step {
    List<int[]> wear = new ArrayList<>();
    List<int[]> heard = new ArrayList<>();
    List<int[]> book = new ArrayList<>();
    int sunday;
    int x;
    Map<List<Integer>, Integer> told = new HashMap<>();
  }

  static final class State {
    List<int[]> keys = new ArrayList<>();
    List<int[]> wear = new ArrayList<>();
    List<int[]> heard = new ArrayList<>();
    List<int[]> book = new ArrayList<>();
    List<Step> steps = new ArrayList<>();
    List<PlainText> texts = new ArrayList<>();
    List<Integer> phrase = new ArrayList<>();
    List<int[]> said = new ArrayList<>();
    int ruling = NONE;
    int sunday;
    int x = 269;
  }

  private State s = new State();
  private State image = new State();
  private String tape = "";
  private int fault = NONE;
  private int faultAt = NONE;

  private static List<int[]> copy(List<int[]> rows) {
    List<int[]> made = new ArrayList<>();
    for (int[] row : rows) made.add(row.clone());
    return made;
  }

  private static Step copy(Step from) {
    Step to = new Step();
    to.wear = copy(from.wear);
    to.heard = copy(from.heard);
    to.book = copy(from.book);
    to.sunday = from.sunday;
    to.x = from.x;
    to.told = new HashMap<>(from.told);
    return to;
  }

  private static State copy(State from) {
    State to = new State();
    to.keys = copy(from.keys);
    to.wear = copy(from.wear);
    to.heard = copy(from.heard);
    to.book = copy(from.book);
    for (Step step : from.steps) to.steps.add(copy(step));
    to.texts = new ArrayList<>(from.texts);
    to.phrase = new ArrayList<>(from.phrase);
    to.said = copy(from.said);
    to.ruling = from.ruling;
    to.sunday = from.sunday;
    to.x = from.x;
    return to;
  }

  private boolean isRoll(int roll) { return roll >= 0 && roll < s.keys.size(); }

  private boolean isPlace(int roll, int at) { return isRoll(roll) && at >= 0 && at < s.keys.get(roll).length; }

  private boolean isChild(int child) { return child >= 0 && child < s.heard.size(); }

  private boolean isKey(int key) { return key >= 1 && key <= 5; }

  private boolean torn(int roll, int at) { return s.wear.get(roll)[at] == 9; }

  public int roll(int n) {
    if (n < 1 || n > 16 || s.keys.size() == 5) return NONE;
    s.keys.add(new int[n]);
    s.wear.add(new int[n]);
    return s.keys.size() - 1;
  }

  public boolean hole(int roll, int at, int key) {
    if (!isPlace(roll, at) || key < 0 || key > 5) return false;
    s.keys.get(roll)[at] = key;
    return true;
  }

  public boolean worn(int roll, int at, int wear) {
    if (!isPlace(roll, at) || wear < 0 || wear > 9) return false;
    s.wear.get(roll)[at] = wear;
    for (Step step : s.steps) step.told.put(List.of(roll, at), wear);
    return true;
  }

  public int child() {
    if (s.heard.size() == 4) return NONE;
    s.heard.add(new int[6]);
    return s.heard.size() - 1;
  }

  public int feed(int a, int b, int c, int d, int e) {
    if (tape.length() + 20 > 300) return NONE;
    for (int four : new int[] {a, b, c, d, e}) {
      for (int i = 3; i >= 0; i--) tape += (char) (four >>> 8 * i & 0xff);
    }
    return tape.length();
  }

  public int end(int n) {
    if (n < 0 || n > tape.length()) return NONE;
    tape = tape.substring(0, n);
    return n;
  }

  public int text() {
    if (s.texts.size() == 4) return NONE;
    String read = tape;
    tape = "";
    fault = 0;
    faultAt = NONE;
    try {
      s.texts.add(new PlainText(read));
      return s.texts.size() - 1;
    } catch (PlainText.Fault found) {
      fault = found.what;
      faultAt = found.at;
      return NONE;
    }
  }

  public int fault(int what) { return what == 0 ? fault : what == 1 ? faultAt : NONE; }

  public boolean by(int text) {
    if (text < NONE || text >= s.texts.size()) return false;
    s.ruling = text;
    return true;
  }

  private PlainText.Scene scene() {
    PlainText.Scene scene = new PlainText.Scene();
    scene.rolls = s.keys;
    scene.names.put("sunday", s.sunday);
    return scene;
  }

  private static int clamp(long value, int high) { return (int) Math.max(0, Math.min(high, value)); }

  private boolean says(int text, String law) { return text != NONE && s.texts.get(text).laws.containsKey(law); }

  private int blurs(int roll, int at, int child) {
    int wear = s.wear.get(roll)[at];
    if (!says(s.ruling, "blurs")) return wear / 2;
    PlainText.Scene scene = scene();
    int key = s.keys.get(roll)[at];
    scene.names.putAll(Map.of("key", key, "who", child, "heard", key == 0 ? 0 : s.heard.get(child)[key],
        "roll", roll, "place", at, "wear", wear));
    return clamp(s.texts.get(s.ruling).laws.get("blurs").applyAsLong(scene), 10);
  }

  private int learns(int text, int child, int key, int heard) {
    if (!says(text, "learns")) return 3;
    PlainText.Scene scene = scene();
    scene.names.putAll(Map.of("key", key, "who", child, "heard", heard));
    return clamp(s.texts.get(text).laws.get("learns").applyAsLong(scene), 99);
  }

  private int wears(int roll, int at, int wear) {
    if (!says(s.ruling, "wears")) return 1;
    PlainText.Scene scene = scene();
    scene.names.putAll(Map.of("key", s.keys.get(roll)[at], "roll", roll, "place", at, "wear", wear));
    return clamp(s.texts.get(s.ruling).laws.get("wears").applyAsLong(scene), 9);
  }

  private void step() {
    Step step = new Step();
    step.wear = copy(s.wear);
    step.heard = copy(s.heard);
    step.book = copy(s.book);
    step.sunday = s.sunday;
    step.x = s.x;
    s.steps.add(step);
    if (s.steps.size() > 30) s.steps.remove(0);
  }

  private int draw(int by) {
    int drawn = s.x % by;
    s.x = (int) ((s.x * 509L + 397L) % 30697L);
    return drawn;
  }

  private int doPlay(int roll, int child) {
    int many = 0;
    for (int at = 0; at < s.keys.get(roll).length; at++) {
      int key = s.keys.get(roll)[at];
      if (key == 0 || torn(roll, at)) continue;
      if (draw(10) >= blurs(roll, at, child)) {
        many++;
        if (s.heard.get(child)[key] < 99) s.heard.get(child)[key]++;
      }
      s.wear.get(roll)[at] = Math.min(9, s.wear.get(roll)[at] + wears(roll, at, s.wear.get(roll)[at]));
    }
    s.book.add(new int[] {s.sunday, roll, child, many});
    if (s.book.size() > 30) s.book.remove(0);
    return many;
  }

  private int doSunday() {
    int many = 0;
    if (!s.keys.isEmpty() && !s.heard.isEmpty()) {
      int roll = draw(s.keys.size());
      int child = draw(s.heard.size());
      many = doPlay(roll, child);
    }
    s.sunday++;
    return many;
  }

  public int play(int roll, int child) {
    if (!isRoll(roll) || !isChild(child)) return NONE;
    step();
    return doPlay(roll, child);
  }

  public boolean patch(int roll, int at) {
    if (!isPlace(roll, at) || s.wear.get(roll)[at] == 0) return false;
    step();
    s.wear.get(roll)[at] = 0;
    return true;
  }

  public boolean forget(int child, int key) {
    if (!isChild(child) || !isKey(key) || s.heard.get(child)[key] == 0) return false;
    step();
    s.heard.get(child)[key] = 0;
    return true;
  }

  public int sunday(int n) {
    if (n < 1 || n > 60 || s.sunday + n > 9999) return NONE;
    int many = 0;
    for (int i = 0; i < n; i++) {
      step();
      many += doSunday();
    }
    return many;
  }

  public int played(int text) {
    if (text < 0 || text >= s.texts.size()) return -2;
    List<PlainText.Clause> clauses = s.texts.get(text).clauses;
    for (int i = 0; i < clauses.size(); i++) {
      PlainText.Clause c = clauses.get(i);
      boolean done = switch (c.word()) {
        case "roll" -> {
          int roll = roll(c.keys().size());
          if (roll != NONE) for (int at = 0; at < c.keys().size(); at++) hole(roll, at, c.keys().get(at));
          yield roll != NONE;
        }
        case "child" -> child() != NONE;
        case "play" -> play(c.a(), c.b()) != NONE;
        case "patch" -> patch(c.b(), c.a());
        case "forget" -> forget(c.b(), c.a());
        case "sunday" -> {
          boolean all = true;
          for (int k = 0; k < c.a(); k++) all = sunday(1) != NONE;
          yield all;
        }
        default -> true;
      };
      if (!done) return i;
    }
    return NONE;
  }

  public int years(int seed, int n) {
    if (seed < 0 || seed > 9999 || n < 1 || n > 40) return NONE;
    step();
    s.x = seed * 2 + 269;
    for (int i = 0; i < n; i++) {
      int x = s.x;
      draw(1);
      int rolls = s.keys.size();
      int children = s.heard.size();
      int kind = x % 6;
      if (kind <= 1 && rolls > 0 && children > 0) {
        doPlay(x % rolls, x / 6 % children);
      } else if (kind == 2 && rolls > 0) {
        int at = x / 6 % 16;
        if (isPlace(x % rolls, at)) s.wear.get(x % rolls)[at] = 0;
      } else if (kind == 3 && children > 0) {
        s.heard.get(x / 6 % children)[1 + x % 5] = 0;
      } else if (kind >= 4 && s.sunday < 9999) {
        doSunday();
      }
    }
    return s.sunday;
  }

  public int undo() {
    if (s.steps.isEmpty()) return NONE;
    Step step = s.steps.remove(s.steps.size() - 1);
    for (int roll = 0; roll < s.keys.size(); roll++) {
      int[] wear = roll < step.wear.size() ? step.wear.get(roll) : new int[s.keys.get(roll).length];
      s.wear.set(roll, wear.clone());
    }
    step.told.forEach((place, wear) -> s.wear.get(place.get(0))[place.get(1)] = wear);
    for (int child = 0; child < s.heard.size(); child++) {
      s.heard.set(child, child < step.heard.size() ? step.heard.get(child).clone() : new int[6]);
    }
    s.book = copy(step.book);
    s.sunday = step.sunday;
    s.x = step.x;
    return s.steps.size();
  }

  private int learnt(int child) {
    int bits = 0;
    for (int key = 1; key <= 5; key++) {
      int heard = s.heard.get(child)[key];
      if (heard >= 1 && heard >= learns(s.ruling, child, key, heard)) bits |= 1 << key;
    }
    return bits;
  }

  public int of(int child, int what) {
    if (!isChild(child)) return NONE;
    int[] heard = s.heard.get(child);
    if (what == 0) return learnt(child);
    if (what == 1) return Arrays.stream(heard).sum();
    if (what != 2) return NONE;
    int most = Arrays.stream(heard).max().getAsInt();
    for (int key = 1; key <= 5; key++) if (most > 0 && heard[key] == most) return key;
    return NONE;
  }

  public int heard(int child, int key) { return isChild(child) && isKey(key) ? s.heard.get(child)[key] : NONE; }

  public int ofRoll(int roll, int what) {
    if (!isRoll(roll) || what < 0 || what > 4) return NONE;
    int[] keys = s.keys.get(roll);
    int holes = 0;
    int torn = 0;
    int bits = 0;
    for (int at = 0; at < keys.length; at++) {
      if (keys[at] != 0) holes++;
      if (torn(roll, at)) torn |= 1 << at;
      if (keys[at] != 0) bits |= 1 << keys[at];
    }
    return what == 0 ? keys.length : what == 1 ? holes : what == 2 ? torn : what == 3 ? bits : tears(roll);
  }

  private int tears(int roll) {
    int[] wear = s.wear.get(roll).clone();
    int[] keys = s.keys.get(roll);
    for (int playings = 0; playings < 99; playings++) {
      for (int at = 0; at < keys.length; at++) if (keys[at] != 0 && wear[at] == 9) return playings;
      for (int at = 0; at < keys.length; at++) {
        if (keys[at] != 0) wear[at] = Math.min(9, wear[at] + wears(roll, at, wear[at]));
      }
    }
    return 99;
  }

  public int at(int roll, int at, int what) {
    if (!isPlace(roll, at)) return NONE;
    int wear = s.wear.get(roll)[at];
    return what == 0 ? s.keys.get(roll)[at] : what == 1 ? wear : what == 2 ? wears(roll, at, wear) : NONE;
  }

  public int law(int roll, int at, int child, boolean blurs) {
    if (!isPlace(roll, at) || !isChild(child)) return NONE;
    if (blurs) return blurs(roll, at, child);
    int key = s.keys.get(roll)[at];
    return learns(s.ruling, child, key, key == 0 ? 0 : s.heard.get(child)[key]);
  }

  public int is(int what) {
    return what == 0 ? s.sunday : what == 1 ? s.x : what == 2 ? s.keys.size() : what == 3 ? s.heard.size() : -2;
  }

  public int book(int i, int what) {
    if (i == NONE) return s.book.size();
    return i < 0 || i >= s.book.size() || what < 0 || what > 3 ? -2 : s.book.get(i)[what];
  }

  public int foretold(int n, int child, int key) {
    if (n < 1 || n > 60 || !isChild(child) || !isKey(key)) return NONE;
    State before = copy(s);
    for (int i = 0; i < n; i++) if (s.sunday < 9999) doSunday();
    int answer = s.heard.get(child)[key];
    s = before;
    return answer;
  }

  private boolean likeKeys(int a, int i, int b, int j) {
    return torn(a, i) || torn(b, j) || s.keys.get(a)[i] == s.keys.get(b)[j];
  }

  public int edit(int a, int b) {
    if (!isRoll(a) || !isRoll(b)) return NONE;
    return edit(a, 0, b, 0, new HashMap<>());
  }

  private int edit(int a, int i, int b, int j, Map<Integer, Integer> known) {
    int left = s.keys.get(a).length - i;
    int right = s.keys.get(b).length - j;
    if (left == 0 || right == 0) return left + right;
    Integer found = known.get(100 * i + j);
    if (found != null) return found;
    int best = edit(a, i + 1, b, j + 1, known) + (likeKeys(a, i, b, j) ? 0 : 1);
    best = Math.min(best, 1 + edit(a, i + 1, b, j, known));
    best = Math.min(best, 1 + edit(a, i, b, j + 1, known));
    known.put(100 * i + j, best);
    return best;
  }

  private String sounding(int roll, int chosen) {
    StringBuilder row = new StringBuilder();
    for (int at = 0; at < s.keys.get(roll).length; at++) {
      if ((chosen >> at & 1) != 0) row.append(torn(roll, at) ? "t" : s.keys.get(roll)[at] == 0 ? "s" : "" + s.keys.get(roll)[at]);
    }
    return row.toString();
  }

  private static boolean within(String some, String all) {
    int from = 0;
    for (char c : some.toCharArray()) {
      from = all.indexOf(c, from) + 1;
      if (from == 0) return false;
    }
    return true;
  }

  public int common(int a, int b, int i) {
    if (!isRoll(a) || !isRoll(b)) return -2;
    String other = sounding(b, 0xffff).replace("t", "").replace("s", "");
    List<Integer> best = List.of();
    for (int chosen = 0; chosen < 1 << s.keys.get(a).length; chosen++) {
      if (Integer.bitCount(chosen) < best.size()) continue;
      if (!within(sounding(a, chosen), other)) continue;
      List<Integer> places = new ArrayList<>();
      for (int at = 0; at < 16; at++) if ((chosen >> at & 1) != 0) places.add(at);
      if (places.size() > best.size() || earlier(places, best)) best = places;
    }
    return i == NONE ? best.size() : i < 0 || i >= best.size() ? -2 : best.get(i);
  }

  private static boolean earlier(List<Integer> one, List<Integer> two) {
    for (int i = 0; i < one.size() && i < two.size(); i++) {
      if (!one.get(i).equals(two.get(i))) return one.get(i) < two.get(i);
    }
    return false;
  }

  public int phrase(int key) {
    if (key == NONE) s.phrase.clear();
    else if (key < 0 || key > 5 || s.phrase.size() == 8) return -2;
    else s.phrase.add(key);
    return s.phrase.size();
  }

  private int unlike(int roll, int from) {
    if (from + s.phrase.size() > s.keys.get(roll).length) return 99;
    int many = 0;
    for (int i = 0; i < s.phrase.size(); i++) {
      if (!torn(roll, from + i) && s.keys.get(roll)[from + i] != s.phrase.get(i)) many++;
    }
    return many;
  }

  public int fits(int roll, int unlike) {
    if (!isRoll(roll) || unlike < 0 || unlike > 8) return NONE;
    int bits = 0;
    for (int at = 0; at < s.keys.get(roll).length; at++) if (unlike(roll, at) <= unlike) bits |= 1 << at;
    return bits;
  }

  public int nearest(int roll) {
    if (!isRoll(roll) || s.phrase.isEmpty() || s.phrase.size() > s.keys.get(roll).length) return NONE;
    for (int unlike = 0; unlike <= 8; unlike++) {
      int bits = fits(roll, unlike);
      if (bits != 0) return Integer.numberOfTrailingZeros(bits);
    }
    return NONE;
  }

  private boolean comesAgain(int roll, int from, int size) {
    int[] keys = s.keys.get(roll);
    for (int other = 0; other + size <= keys.length; other++) {
      boolean same = other != from;
      for (int i = 0; i < size; i++) {
        same = same && keys[from + i] == keys[other + i] && !torn(roll, from + i) && !torn(roll, other + i);
      }
      if (same) return true;
    }
    return false;
  }

  public int motif(int roll, boolean first) {
    if (!isRoll(roll)) return -2;
    for (int size = s.keys.get(roll).length - 1; size > 0; size--) {
      for (int at = 0; at + size <= s.keys.get(roll).length; at++) {
        if (comesAgain(roll, at, size)) return first ? at : size;
      }
    }
    return first ? NONE : 0;
  }

  public int mirror(int roll, boolean first) {
    if (!isRoll(roll)) return -2;
    int n = s.keys.get(roll).length;
    for (int size = n; size > 0; size--) {
      for (int at = 0; at + size <= n; at++) {
        boolean alike = true;
        for (int i = 0; i < size; i++) alike = alike && likeKeys(roll, at + i, roll, at + size - 1 - i);
        if (alike) return first ? at : size;
      }
    }
    return -99;
  }

  public int clash(int a, int b, int off) {
    if (!isRoll(a) || !isRoll(b) || off < 0 || off > 16) return NONE;
    int many = 0;
    for (int time = 0; time < 32; time++) {
      if (!isPlace(a, time) || !isPlace(b, time - off) || torn(a, time) || torn(b, time - off)) continue;
      int key = s.keys.get(a)[time];
      if (key != 0 && key == s.keys.get(b)[time - off]) many++;
    }
    return many;
  }

  public int together(int a, int b) {
    if (!isRoll(a) || !isRoll(b)) return NONE;
    int best = 0;
    for (int off = 16; off >= 0; off--) if (clash(a, b, off) <= clash(a, b, best)) best = off;
    for (int off = 0; off <= 16; off++) if (clash(a, b, off) == clash(a, b, best)) return off;
    return -99;
  }

  private String row(int roll) {
    StringBuilder row = new StringBuilder();
    for (int key : s.keys.get(roll)) row.append(key);
    return row.toString();
  }

  private void orders(List<Integer> rest, List<Integer> laid, List<List<Integer>> all) {
    if (rest.isEmpty()) all.add(new ArrayList<>(laid));
    for (int roll : rest) {
      List<Integer> others = new ArrayList<>(rest);
      others.remove((Integer) roll);
      laid.add(roll);
      orders(others, laid, all);
      laid.remove(laid.size() - 1);
    }
  }

  public int stair(int rolls, int i) {
    if (rolls <= 0 || rolls >= 1 << s.keys.size()) return -2;
    List<Integer> some = new ArrayList<>();
    for (int roll = 0; roll < 5; roll++) if ((rolls >> roll & 1) != 0) some.add(roll);
    for (int roll : some) if (ofRoll(roll, 2) != 0) return -2;
    List<List<Integer>> all = new ArrayList<>();
    orders(some, new ArrayList<>(), all);
    List<Integer> best = null;
    int fewest = 1000;
    for (List<Integer> order : all) {
      String row = "";
      for (int roll : order) {
        String next = row(roll);
        if (row.contains(next)) continue;
        int over = next.length();
        while (!row.endsWith(next.substring(0, over))) over--;
        row += next.substring(over);
      }
      if (row.length() < fewest || row.length() == fewest && earlier(order, best)) {
        fewest = row.length();
        best = order;
      }
    }
    return i == NONE ? fewest : i < 0 || i >= best.size() ? -2 : best.get(i);
  }

  public long fills(int roll) {
    if (!isRoll(roll) || Integer.bitCount(ofRoll(roll, 2)) > 4) return NONE;
    List<String> rows = List.of("");
    for (int at = 0; at < s.keys.get(roll).length; at++) {
      List<String> longer = new ArrayList<>();
      for (String row : rows) {
        if (torn(roll, at)) for (int key = 0; key <= 5; key++) longer.add(row + key);
        else longer.add(row + s.keys.get(roll)[at]);
      }
      rows = longer;
    }
    StringBuilder phrase = new StringBuilder();
    for (int key : s.phrase) phrase.append(key);
    return rows.stream().filter(row -> row.contains(phrase)).count();
  }

  private boolean taught(int child, int keys, int[] times) {
    for (int key = 1; key <= 5; key++) {
      if ((keys >> key & 1) == 0) continue;
      int heard = s.heard.get(child)[key];
      for (int roll = 0; roll < s.keys.size(); roll++) {
        for (int at = 0; at < s.keys.get(roll).length; at++) {
          if (s.keys.get(roll)[at] == key && !torn(roll, at)) heard += times[roll];
        }
      }
      heard = Math.min(99, heard);
      if (heard < 1 || heard < learns(s.ruling, child, key, heard)) return false;
    }
    return true;
  }

  public int teaches(int child, int keys, int i) {
    if (!isChild(child) || (keys & ~62) != 0 || i < NONE || i >= s.keys.size()) return -2;
    int[] best = null;
    // Counting up with roll 0 as the highest digit: of like sums the last one has most of roll 0, then of 1, ..
    for (int code = 0; code < 59049; code++) {
      int[] times = new int[5];
      int rest = code;
      for (int roll = 4; roll >= 0; roll--) {
        times[roll] = rest % 9;
        rest /= 9;
      }
      int sum = Arrays.stream(times).sum();
      boolean untold = false;
      for (int roll = s.keys.size(); roll < 5; roll++) untold |= times[roll] != 0;
      if (untold || sum > 8 || best != null && sum > Arrays.stream(best).sum()) continue;
      if (taught(child, keys, times)) best = times;
    }
    return best == null ? -2 : i == NONE ? Arrays.stream(best).sum() : best[i];
  }

  public long likely(int roll, int child, int key, int n, boolean low) {
    if (!isRoll(roll) || !isChild(child) || !isKey(key) || n < 0 || n > 16) return NONE;
    List<Integer> odds = new ArrayList<>();
    for (int at = 0; at < s.keys.get(roll).length; at++) {
      if (s.keys.get(roll)[at] == key && !torn(roll, at)) odds.add(10 - blurs(roll, at, child));
    }
    BigInteger upper = BigInteger.ZERO;
    for (int which = 0; which < 1 << odds.size(); which++) {
      if (Integer.bitCount(which) < n) continue;
      BigInteger way = BigInteger.ONE;
      for (int i = 0; i < odds.size(); i++) {
        way = way.multiply(BigInteger.valueOf((which >> i & 1) != 0 ? odds.get(i) : 10 - odds.get(i)));
      }
      upper = upper.add(way);
    }
    BigInteger lower = BigInteger.TEN.pow(odds.size());
    BigInteger common = upper.gcd(lower);
    return (low ? lower : upper).divide(common).longValueExact();
  }

  public int parts(int roll) {
    if (!isRoll(roll)) return NONE;
    String row = row(roll);
    int many = 0;
    for (int at = 0; at < row.length(); many++) {
      int size = 0;
      while (at + size < row.length() && row.indexOf(row.substring(at, at + size + 1)) < at) size++;
      at += size + 1;
    }
    return many;
  }

  public int alike() {
    int best = NONE;
    int fewest = 100;
    for (int a = 0; a < s.keys.size(); a++) {
      for (int b = a + 1; b < s.keys.size(); b++) {
        if (edit(b, a) < fewest) {
          fewest = edit(b, a);
          best = 10 * a + b;
        }
      }
    }
    return best;
  }

  public int said(int child, int key, int learns) {
    if (child == NONE) s.said.clear();
    else if (!isChild(child) || !isKey(key) || learns < 0 || learns > 99 || s.said.size() == 8) return -2;
    else s.said.add(new int[] {child, key, learns});
    return s.said.size();
  }

  public int whose() {
    int bits = 0;
    for (int text = 0; text < s.texts.size(); text++) {
      int which = text;
      if (s.said.stream().allMatch(say -> learns(which, say[0], say[1], s.heard.get(say[0])[say[1]]) == say[2])) {
        bits |= 1 << text;
      }
    }
    return bits;
  }

  public int best() {
    int best = NONE;
    for (int child = s.heard.size() - 1; child >= 0; child--) {
      int many = Integer.bitCount(learnt(child));
      if (many > 0 && (best == NONE || many >= Integer.bitCount(learnt(best)))) best = child;
    }
    return best;
  }

  public int loved() {
    int best = NONE;
    int most = 0;
    for (int roll = 0; roll < s.wear.size(); roll++) {
      int sum = Arrays.stream(s.wear.get(roll)).sum();
      if (sum > most) {
        most = sum;
        best = roll;
      }
    }
    return best;
  }

  public int dumb() {
    int bits = 0;
    for (int roll = 0; roll < s.keys.size(); roll++) {
      String sounds = sounding(roll, 0xffff).replace("t", "").replace("s", "");
      if (sounds.isEmpty()) bits |= 1 << roll;
    }
    return bits;
  }

  public int ledger(int roll) {
    if (roll != NONE && !isRoll(roll)) return -2;
    return (int) s.book.stream().filter(page -> roll == NONE || page[1] == roll).count();
  }

  public int image() {
    image = copy(s);
    return s.sunday;
  }

  public int back() {
    s = copy(image);
    return s.sunday;
  }

  public int about(int what) {
    return switch (what) {
      case 0 -> s.keys.size();
      case 1 -> s.heard.size();
      case 2 -> s.texts.size();
      case 3 -> s.ruling;
      case 4 -> s.steps.size();
      case 5 -> s.phrase.size();
      case 6 -> s.said.size();
      case 7 -> tape.length();
      default -> -2;
    };
  }
}
