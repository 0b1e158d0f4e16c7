import java.util.*;
import java.util.regex.Matcher;
import java.util.regex.Pattern;

/** The document once more, in the plainest way and with the whole library, to be asked beside the class. */
final class Model {
  private static final int NONE = -1, BAD = -2, STATE = -3, FULL = -4;
  private static final String ALPHABET = "abcdefghijklmnopqrstuvwxyz ";

  private static final class Reading {
    final int kind;
    final Set<Character> may = new TreeSet<>();

    Reading(int kind) {
      this.kind = kind;
    }

    int bits() {
      int bits = 0;
      for (char c : may) {
        bits |= 1 << ALPHABET.indexOf(c);
      }
      return bits;
    }

    String told() {
      return kind + ":" + may;
    }
  }

  private static final class Spent extends RuntimeException {
    private static final long serialVersionUID = 1;
  }

  private static final class Faulty extends RuntimeException {
    private static final long serialVersionUID = 1;
    final int place;

    Faulty(int place) {
      this.place = place;
    }
  }

  private final List<int[]> stones = new ArrayList<>();
  private final List<Integer> hands = new ArrayList<>();
  private final Map<List<Integer>, Reading> readings = new HashMap<>();
  private String tape = "";
  private final List<List<String>> formulas = new ArrayList<>();
  private final Map<List<Integer>, Integer> edges = new HashMap<>();
  private int tolerance = 1;
  private final Map<Integer, Integer> rightOf = new TreeMap<>();
  private final List<int[]> years = new ArrayList<>();
  private final List<int[]> bounds = new ArrayList<>();
  private final List<long[]> persons = new ArrayList<>();
  private final byte[][] trays = new byte[4][];

  // ---- signs

  int stone(int lines, int places) {
    if (lines < 1 || lines > 4 || places < 1 || places > 24) return BAD;
    if (stones.size() == 12) return FULL;
    stones.add(new int[] {lines, places});
    years.add(new int[] {-999, 999});
    return stones.size() - 1;
  }

  int hand(int rank) {
    if (rank < 0 || rank > 9) return BAD;
    if (hands.size() == 6) return FULL;
    hands.add(rank);
    return hands.size() - 1;
  }

  private boolean isHand(int h) {
    return h >= 0 && h < hands.size();
  }

  private boolean isStone(int s) {
    return s >= 0 && s < stones.size();
  }

  private boolean isLine(int s, int l) {
    return isStone(s) && l >= 0 && l < stones.get(s)[0];
  }

  private boolean isPlace(int s, int l, int p) {
    return isLine(s, l) && p >= 0 && p < stones.get(s)[1];
  }

  private static Reading reading(int kind, int v) {
    Reading r = new Reading(kind);
    if (kind == 0 || kind == 1 || kind == 5) {
      if (v < 0 || v > 26) return null;
      r.may.add(ALPHABET.charAt(v));
    } else if (kind == 2) {
      if (v < 0 || v >= 1 << 27) return null;
      for (int i = 0; i < 27; i++) {
        if ((v & 1 << i) != 0) r.may.add(ALPHABET.charAt(i));
      }
      if (r.may.size() < 2) return null;
    } else if (kind == 3 || kind == 4) {
      for (char c : ALPHABET.toCharArray()) r.may.add(c);
    } else {
      return null;
    }
    return r;
  }

  int read(int h, int s, int l, int p, int kind, int v) {
    Reading r = reading(kind, v);
    if (!isHand(h) || !isPlace(s, l, p) || r == null) return BAD;
    readings.put(List.of(h, s, l, p), r);
    return 1;
  }

  int forget(int h, int s, int l, int p) {
    if (!isHand(h) || !isPlace(s, l, p)) return BAD;
    return readings.remove(List.of(h, s, l, p)) == null ? 0 : 1;
  }

  private int theHand(int s, int l, int p) {
    for (int rank = 9; rank >= 0; rank--) {
      for (int h = 0; h < hands.size(); h++) {
        if (hands.get(h) == rank && readings.containsKey(List.of(h, s, l, p))) return h;
      }
    }
    return NONE;
  }

  private Reading theReading(int s, int l, int p) {
    int h = theHand(s, l, p);
    return h == NONE ? reading(3, 0) : readings.get(List.of(h, s, l, p));
  }

  int sign(int s, int l, int p, int what) {
    if (!isPlace(s, l, p) || what < 0 || what > 3) return BAD;
    Reading r = theReading(s, l, p);
    if (what == 0) return r.kind;
    if (what == 1) return r.bits();
    if (what == 2) return theHand(s, l, p);
    int n = 0;
    for (int h = 0; h < hands.size(); h++) {
      Reading own = readings.get(List.of(h, s, l, p));
      if (own != null && !own.told().equals(r.told())) n++;
    }
    return n;
  }

  // ---- formulas

  int feed(int n, long bytes) {
    if (n < 1 || n > 8) return BAD;
    if (tape.length() + n > 200) return FULL;
    for (int i = 0; i < n; i++) {
      tape += (char) (bytes >>> 8 * i & 255);
    }
    return tape.length();
  }

  private String source;
  private int at;

  private String token() {
    while (at < source.length() && (source.charAt(at) == ' ' || source.charAt(at) == '\n')) at++;
    if (at == source.length()) return "";
    int end = at;
    while (end < source.length() && source.charAt(end) >= 'a' && source.charAt(end) <= 'z') end++;
    if (end > at) return source.substring(at, end);
    return source.substring(at, at + 1);
  }

  private static boolean isWord(String token) {
    return !token.isEmpty() && Character.isLowerCase(token.charAt(0)) && token.charAt(0) < 128;
  }

  /** A tree: rows of pieces; each piece a String, or a List (first whether it may be left out). */
  private List<List<Object>> all(int open) {
    List<List<Object>> rows = new ArrayList<>();
    do {
      if (!rows.isEmpty()) at++;
      List<Object> row = new ArrayList<>();
      while (true) {
        String t = token();
        if (isWord(t) && t.length() <= 8) {
          row.add(t);
          at += t.length();
        } else if ((t.equals("(") || t.equals("[")) && open < 4) {
          at++;
          List<List<Object>> inner = all(open + 1);
          if (!token().equals(t.equals("(") ? ")" : "]")) throw new Faulty(at);
          at++;
          row.add(new Object[] {t.equals("["), inner});
        } else {
          break;
        }
      }
      if (row.isEmpty()) throw new Faulty(at);
      rows.add(row);
    } while (token().equals("|"));
    return rows;
  }

  private static Set<String> held(Set<String> texts) {
    if (texts.size() > 200) throw new Spent();
    for (String t : texts) {
      if (t.length() > 24) throw new Spent();
    }
    return texts;
  }

  @SuppressWarnings("unchecked")
  private Set<String> textsOfAll(List<List<Object>> rows) {
    Set<String> made = new TreeSet<>();
    for (List<Object> row : rows) {
      Set<String> upTo = null;
      for (Object piece : row) {
        Set<String> texts = new TreeSet<>();
        if (piece instanceof String) {
          texts.add((String) piece);
        } else {
          Object[] inner = (Object[]) piece;
          texts.addAll(textsOfAll((List<List<Object>>) inner[1]));
          if ((Boolean) inner[0]) texts.add("");
        }
        held(texts);
        Set<String> next = new TreeSet<>();
        for (String a : upTo == null ? Set.of("") : upTo) {
          for (String b : texts) {
            next.add((a + " " + b).trim());
          }
        }
        upTo = held(next);
      }
      made.addAll(upTo);
      held(made);
    }
    return made;
  }

  int formula() {
    if (formulas.size() == 8) return FULL;
    source = tape;
    tape = "";
    at = 0;
    try {
      List<List<Object>> tree = all(0);
      if (!token().equals(".")) return -20 - at;
      at++;
      if (!token().isEmpty()) return -20 - at;
      formulas.add(new ArrayList<>(textsOfAll(tree)));
      return formulas.size() - 1;
    } catch (Faulty f) {
      return -20 - f.place;
    } catch (Spent e) {
      return STATE;
    }
  }

  private boolean isFormula(int f) {
    return f >= 0 && f < formulas.size();
  }

  int texts(int f) {
    return isFormula(f) ? formulas.get(f).size() : BAD;
  }

  int text(int f, int i, int k) {
    if (!isFormula(f)) return BAD;
    List<String> texts = formulas.get(f);
    if (i < 0 || i >= texts.size() || k < 0 || k >= texts.get(i).length()) return NONE;
    return ALPHABET.indexOf(texts.get(i).charAt(k));
  }

  private static String padded(String text, int places) {
    return text + " ".repeat(Math.max(0, places - text.length()));
  }

  private List<Set<Character>> mays(int s, int l) {
    List<Set<Character>> mays = new ArrayList<>();
    for (int p = 0; p < stones.get(s)[1]; p++) mays.add(theReading(s, l, p).may);
    return mays;
  }

  private List<Integer> waysOn(List<Set<Character>> mays, int f) {
    List<Integer> ways = new ArrayList<>();
    for (int i = 0; i < formulas.get(f).size(); i++) {
      String text = padded(formulas.get(f).get(i), mays.size());
      boolean fits = text.length() == mays.size();
      for (int p = 0; p < mays.size() && fits; p++) fits = mays.get(p).contains(text.charAt(p));
      if (fits) ways.add(i);
    }
    return ways;
  }

  int ways(int s, int l, int f) {
    return isLine(s, l) && isFormula(f) ? waysOn(mays(s, l), f).size() : BAD;
  }

  int way(int s, int l, int f, int i) {
    if (!isLine(s, l) || !isFormula(f)) return BAD;
    List<Integer> ways = waysOn(mays(s, l), f);
    return i >= 0 && i < ways.size() ? ways.get(i) : NONE;
  }

  int carried(int s, int l, int p, int f) {
    if (!isPlace(s, l, p) || !isFormula(f)) return BAD;
    Set<Character> letters = new TreeSet<>();
    for (int i : waysOn(mays(s, l), f)) {
      letters.add(padded(formulas.get(f).get(i), stones.get(s)[1]).charAt(p));
    }
    return letters.size() == 1 ? ALPHABET.indexOf(letters.iterator().next()) : NONE;
  }

  int fits(int s, int l) {
    if (!isLine(s, l)) return BAD;
    for (int f = 0; f < formulas.size(); f++) {
      if (!waysOn(mays(s, l), f).isEmpty()) return f;
    }
    return NONE;
  }

  // ---- edges

  int edge(int s, int side, int l, int v) {
    if (!isLine(s, l) || side < 0 || side > 1 || v < 0 || v > 9) return BAD;
    rightOf.remove(s);
    rightOf.values().removeIf(b -> b == s);
    Integer had = edges.put(List.of(s, side, l), v);
    return had == null ? 0 : had;
  }

  int tolerance(int n) {
    if (n < 0 || n > 3) return BAD;
    int had = tolerance;
    tolerance = n;
    rightOf.clear();
    return had;
  }

  int room(int a, int b) {
    if (!isStone(a) || !isStone(b)) return BAD;
    if (a == b || stones.get(a)[0] != stones.get(b)[0]) return NONE;
    int sum = 0;
    for (int l = 0; l < stones.get(a)[0]; l++) {
      int d = Math.abs(edges.getOrDefault(List.of(a, 1, l), 0) - edges.getOrDefault(List.of(b, 0, l), 0));
      if (d > tolerance) return NONE;
      sum += d;
    }
    return sum;
  }

  int best(int s, int side) {
    if (!isStone(s) || side < 0 || side > 1) return BAD;
    if (joined(s, side) != NONE) return NONE;
    for (int sum = 0; sum <= 12; sum++) {
      for (int o = 0; o < stones.size(); o++) {
        if ((side == 1 ? room(s, o) : room(o, s)) == sum && joined(o, 1 - side) == NONE) return o;
      }
    }
    return NONE;
  }

  int join(int a, int b) {
    if (!isStone(a) || !isStone(b)) return BAD;
    if (best(a, 1) != b || best(b, 0) != a) return STATE;
    rightOf.put(a, b);
    Set<Integer> seen = new HashSet<>();
    for (Integer s = a; s != null; s = rightOf.get(s)) {
      if (!seen.add(s)) {
        rightOf.remove(a);
        return STATE;
      }
    }
    return 1;
  }

  int part(int s) {
    if (!isStone(s)) return BAD;
    return rightOf.remove(s) == null ? STATE : 1;
  }

  int joined(int s, int side) {
    if (!isStone(s) || side < 0 || side > 1) return BAD;
    if (side == 1) return rightOf.getOrDefault(s, NONE);
    for (Map.Entry<Integer, Integer> e : rightOf.entrySet()) {
      if (e.getValue() == s) return e.getKey();
    }
    return NONE;
  }

  int whole(int s, int l, int f) {
    if (!isLine(s, l) || !isFormula(f)) return BAD;
    if (rightOf.containsValue(s)) return STATE;
    List<Set<Character>> mays = new ArrayList<>();
    for (Integer next = s; next != null; next = rightOf.get(next)) mays.addAll(mays(next, l));
    return mays.size() > 24 ? 0 : waysOn(mays, f).size();
  }

  // ---- years

  int years(int s, int least, int most) {
    if (!isStone(s) || least < -999 || most > 999 || least > most) return BAD;
    years.set(s, new int[] {least, most});
    return 1;
  }

  int bound(int a, int b, int d) {
    if (!isStone(a) || !isStone(b) || a == b || Math.abs((long) d) > 200) return BAD;
    if (bounds.size() == 20) return FULL;
    bounds.add(new int[] {a, b, d});
    return bounds.size();
  }

  int loose() {
    if (bounds.isEmpty()) return STATE;
    bounds.remove(bounds.size() - 1);
    return bounds.size();
  }

  /** Least and greatest years of all stones by least differences between all pairs, or null. */
  private int[][] spans(List<int[]> by) {
    int n = stones.size();
    // far[i][j]: the year of j less that of i is so much or above; n stands for the year 0.
    int[][] far = new int[n + 1][n + 1];
    for (int[] row : far) Arrays.fill(row, -1000000);
    for (int i = 0; i <= n; i++) far[i][i] = 0;
    for (int i = 0; i < n; i++) {
      far[n][i] = years.get(i)[0];
      far[i][n] = -years.get(i)[1];
    }
    for (int[] b : by) far[b[0]][b[1]] = Math.max(far[b[0]][b[1]], b[2]);
    for (int k = 0; k <= n; k++) {
      for (int i = 0; i <= n; i++) {
        for (int j = 0; j <= n; j++) {
          far[i][j] = Math.min(1000000, Math.max(far[i][j], far[i][k] + far[k][j]));
        }
      }
    }
    for (int i = 0; i <= n; i++) {
      if (far[i][i] > 0) return null;
    }
    int[][] spans = new int[n][];
    for (int i = 0; i < n; i++) spans[i] = new int[] {far[n][i], -far[i][n]};
    return spans;
  }

  int span(int s, int what) {
    if (!isStone(s) || what < 0 || what > 1) return BAD;
    int[][] spans = spans(bounds);
    return spans == null ? -100000 : spans[s][what];
  }

  int clash() {
    if (spans(bounds) != null) return NONE;
    Set<Integer> left = new TreeSet<>();
    for (int i = 0; i < bounds.size(); i++) left.add(i);
    for (int i = bounds.size() - 1; i >= 0; i--) {
      List<int[]> without = new ArrayList<>();
      for (int j : left) {
        if (j != i) without.add(bounds.get(j));
      }
      if (spans(without) == null) left.remove(i);
    }
    int bits = 0;
    for (int i : left) bits |= 1 << i;
    return bits;
  }

  // ---- persons

  private static boolean isName(long number) {
    if (number <= 0) return false;
    String digits = Long.toString(number, 27);
    return digits.length() <= 7 && digits.indexOf('0') < 0;
  }

  int person(long name, long father, int s) {
    if (!isName(name) || father != 0 && !isName(father) || !isStone(s)) return BAD;
    if (persons.size() == 12) return FULL;
    persons.add(new long[] {name, father, s});
    return persons.size() - 1;
  }

  private boolean isPerson(int p) {
    return p >= 0 && p < persons.size();
  }

  int one(int a, int b) {
    if (!isPerson(a) || !isPerson(b) || a == b) return BAD;
    long[] p = persons.get(a);
    long[] q = persons.get(b);
    int[][] spans = spans(bounds);
    if (spans == null || p[0] != q[0] || p[1] != q[1] && p[1] * q[1] != 0) return 0;
    int[] own = spans[(int) p[2]];
    int[] other = spans[(int) q[2]];
    for (int y = own[0]; y <= own[1]; y++) {
      if (other[0] - 60 < y && y < other[1] + 60) return 1;
    }
    return 0;
  }

  private List<List<Integer>> groups() {
    List<List<Integer>> groups = new ArrayList<>();
    for (int p = 0; p < persons.size(); p++) {
      List<Integer> to = null;
      for (List<Integer> group : groups) {
        boolean with = true;
        for (int q : group) with = with && one(p, q) == 1;
        if (with && to == null) to = group;
      }
      if (to == null) {
        to = new ArrayList<>();
        groups.add(to);
      }
      to.add(p);
    }
    return groups;
  }

  int group(int p) {
    if (!isPerson(p)) return BAD;
    List<List<Integer>> groups = groups();
    for (int g = 0; g < groups.size(); g++) {
      if (groups.get(g).contains(p)) return g;
    }
    return 99999;
  }

  int father(int p) {
    if (!isPerson(p)) return BAD;
    int[][] spans = spans(bounds);
    for (int q = 0; q < persons.size() && spans != null; q++) {
      int[] his = spans[(int) persons.get(q)[2]];
      int[] own = spans[(int) persons.get(p)[2]];
      if (q != p && persons.get(q)[0] == persons.get(p)[1]) {
        for (int y = his[0]; y <= his[1]; y++) {
          if (y + 60 >= own[0] && y + 15 <= own[1]) return q;
        }
      }
    }
    return NONE;
  }

  // ---- printed

  private String page(int s, int l, int f) {
    StringBuilder page = new StringBuilder();
    for (int p = 0; p < stones.get(s)[1]; p++) {
      Reading r = theReading(s, l, p);
      String own = r.may.iterator().next().toString().replace(' ', '_');
      int c = f == NONE ? NONE : carried(s, l, p, f);
      if (r.kind <= 1) {
        page.append(own);
      } else if (r.kind == 5) {
        page.append("<" + own + ">");
      } else if (c != NONE) {
        page.append("[" + (ALPHABET.charAt(c) + "").replace(' ', '_') + "]");
      } else {
        page.append("  ?-#".charAt(r.kind));
      }
    }
    return page.toString();
  }

  int print(int s, int l, int f) {
    return isLine(s, l) && (f == NONE || isFormula(f)) ? page(s, l, f).length() : BAD;
  }

  int printed(int s, int l, int f, int i) {
    if (!isLine(s, l) || f != NONE && !isFormula(f)) return BAD;
    String page = page(s, l, f);
    return i >= 0 && i < page.length() ? page.charAt(i) : NONE;
  }

  int back(int h, int s, int l) {
    if (!isHand(h) || !isLine(s, l)) return BAD;
    String line = tape;
    tape = "";
    Pattern place = Pattern.compile("([a-z_])|<([a-z_])>|(\\[[a-z_]\\]|[?-])|(#)");
    Matcher m = place.matcher(line);
    List<Reading> read = new ArrayList<>();
    int from = 0;
    while (read.size() < stones.get(s)[1] && m.region(from, line.length()).lookingAt()) {
      for (int g = 1; g <= 2; g++) {
        if (m.group(g) != null) {
          read.add(reading(g == 1 ? 0 : 5, ALPHABET.indexOf(m.group(g).replace('_', ' '))));
        }
      }
      if (m.group(3) != null) read.add(reading(3, 0));
      if (m.group(4) != null) read.add(reading(4, 0));
      from = m.end();
    }
    if (read.size() == stones.get(s)[1]) {
      if (from < line.length()) return -20 - from;
      for (int p = 0; p < read.size(); p++) readings.put(List.of(h, s, l, p), read.get(p));
      return read.size();
    }
    // How far the place that does not come to its end can go.
    Matcher begun = Pattern.compile("[<\\[][a-z_]?").matcher(line).region(from, line.length());
    return -20 - (begun.lookingAt() ? begun.end() : from);
  }

  int count(int what) {
    if (what < 0 || what > 8) return BAD;
    return new int[] {
      stones.size(), hands.size(), formulas.size(), persons.size(), bounds.size(), rightOf.size(),
      tape.length(), groups().size(), tolerance
    }[what];
  }

  // ---- the host

  int tray(int t, int n) {
    if (t < 0 || t > 3 || n > 40) return BAD;
    if (n < -1) return -14;
    trays[t] = n == -1 ? null : new byte[n];
    return 1;
  }

  int cell(int t, int i, int v) {
    if (t < 0 || t > 3) return BAD;
    if (trays[t] == null) return -11;
    if (i < 0 || i >= trays[t].length) return -12;
    trays[t][i] = (byte) v;
    return 1;
  }

  int lay(int h, int s, int l, int t, int from) {
    if (!isHand(h) || !isLine(s, l) || t < 0 || t > 3) return BAD;
    if (trays[t] == null) return -11;
    for (int p = 0; p < stones.get(s)[1]; p++) {
      long at = (long) from + p;
      if (from < 0 || at >= trays[t].length) return -12;
      int letter = ALPHABET.indexOf((char) trays[t][(int) at]);
      readings.put(List.of(h, s, l, p), letter < 0 ? reading(3, 0) : reading(0, letter));
    }
    return stones.get(s)[1];
  }

  int taken(int h, int s, int l, int p, int k) {
    if (!isHand(h) || !isPlace(s, l, p) || k < 0 || k > 5) return BAD;
    Reading r = readings.get(List.of(h, s, l, p));
    if (r == null) return -11;
    String[] under = {"0", "10", "20", "30", "430", "50"};
    return under[r.kind].indexOf('0' + k) >= 0 ? r.bits() : -13;
  }
}
