import java.lang.reflect.Method;
import java.util.ArrayList;
import java.util.Arrays;
import java.util.HashMap;
import java.util.List;
import java.util.Map;

/** Asks the class and the model the same long runs of calls, made by mixing a counter. */
public final class ModelTest extends Asking {
  private static final int RUNS = 2000;
  private static final int CALLS = 512;

  // What a run asks most, so that its calls meet one another.
  private static final String[] THEMES = {
    "read forget sign taken lay read", "feed formula texts text ways way carried fits read read",
    "edge tolerance room best join join join part joined", "join join part whole whole edge read formula",
    "years bound loose span clash", "years bound person one group father count",
    "read print printed back formula", "tray cell cell lay taken forget"
  };
  private static final String[] FORMULAS = {
    "a.", "[a].", "a [b] c.", "(a|b)(c|d).", "[a|b][c]d.", "ab|ba|aba.", "a b|b a|[c].",
    "((a|b)[c]|d) e.", "abcdefgh [abcdefgh] abcdef.", "(a|b)(a|b)(a|b)(a|b)(a|b)(a|b)(a|b).",
    "(a|b)(a|b)(a|b)(a|b)(a|b)(a|b)(a|b)(a|b).", "[a][b][c][d][e][f].", "a||b.", "(a", "a b",
    "((((a|b)|c)|d)|e).", "(((((a))))).", "[abc][abc][a][bb][a][a]c.", "(ab|b)(b|bb)[(a|b|c)a]."
  };
  private static final String SIGNS = "aabbcde ()[]|..\nz";
  private static final String PRINTS = "abc_<a><b>[c][_]?-#<[>]";

  private static final Map<String, Method> CLASS = methods(InscribedStones.class);
  private static final Map<String, Method> MODEL = methods(Model.class);
  private static final String[] NAMES = names();

  private final InscribedStones x = new InscribedStones();
  private final Model m = new Model();
  private final List<String> told = new ArrayList<>();
  private final int run;
  private long state;
  private int stone;
  private int line;
  private int place;
  private boolean right = true;

  private ModelTest(int run) {
    this.run = run;
    state = run * 7919L + 1;
  }

  public static void main(String[] args) throws Exception {
    for (int run = 0; run < RUNS; run++) {
      new ModelTest(run).run();
    }
    Due.end();
  }

  private static Map<String, Method> methods(Class<?> c) {
    Map<String, Method> methods = new HashMap<>();
    for (Method method : c.getDeclaredMethods()) {
      if (!java.lang.reflect.Modifier.isPrivate(method.getModifiers())) {
        methods.put(method.getName(), method);
      }
    }
    return methods;
  }

  private static String[] names() {
    String[] names = CLASS.keySet().toArray(new String[0]);
    Arrays.sort(names);
    return names;
  }

  private int below(int n) {
    state = state * 6364136223846793005L + 1442695040888963407L;
    return (int) ((state >>> 33) % n);
  }

  /** Mostly a number below n, now and then one at the edges or far off. */
  private int number(int n) {
    if (below(24) != 0) {
      return below(Math.max(1, n));
    }
    int[] off = {-1, n, n + 1, -2, Integer.MAX_VALUE, Integer.MIN_VALUE, 1 << 27};
    return off[below(off.length)];
  }

  private int between(int least, int most) {
    return below(40) == 0 ? number(most) : least + below(most - least + 1);
  }

  private void run() throws Exception {
    int wide = 1 + below(3);
    String[] theme = THEMES[below(THEMES.length)].split(" ");
    for (int i = 0; i < CALLS && right; i++) {
      String name = i < 4 ? i % 2 == 0 ? "stone" : "hand"
          : below(3) == 0 ? NAMES[below(NAMES.length)] : theme[below(theme.length)];
      // Few bounds, or they clash all the time.
      if (name.equals("bound") && m.count(4) > 2 + run % 19) {
        name = "loose";
      }
      String text = fed(name);
      for (int at = 0; at < text.length(); at += 8) {
        call("feed", Math.min(8, text.length() - at), packed(text, at));
      }
      call(name, arguments(name, wide));
    }
  }

  private void call(String name, long... args) throws Exception {
    if (!right) {
      return;
    }
    int got = ask(CLASS.get(name), x, args);
    int want = ask(MODEL.get(name), m, args);
    String call = name + Arrays.toString(args) + " = " + want;
    told.add(call);
    due("run " + run + " call " + told.size() + " " + call, got, want);
    right = got == want;
    if (!right) {
      System.out.println(String.join("\n", told));
    }
  }

  private static int ask(Method method, Object of, long[] args) throws Exception {
    Class<?>[] types = method.getParameterTypes();
    Object[] boxed = new Object[types.length];
    for (int i = 0; i < types.length; i++) {
      if (types[i] == long.class) {
        boxed[i] = args[i];
      } else {
        boxed[i] = (int) args[i];
      }
    }
    return (Integer) method.invoke(of, boxed);
  }

  private static long packed(String text, int at) {
    long bytes = 0;
    for (int i = 0; i < 8 && at + i < text.length(); i++) {
      bytes |= (long) text.charAt(at + i) << (8 * i);
    }
    return bytes;
  }

  /** What is fed ahead of a call that reads the tape. */
  private String fed(String name) {
    switch (name) {
      case "formula":
        return below(3) == 0 ? mixed(SIGNS) : FORMULAS[below(FORMULAS.length)];
      case "back":
        return below(3) == 0 ? mixed(PRINTS) : page();
      default:
        return "";
    }
  }

  private String mixed(String signs) {
    StringBuilder text = new StringBuilder();
    int n = below(14);
    for (int i = 0; i < n; i++) {
      text.append(signs.charAt(below(signs.length())));
    }
    if (below(30) == 0) {
      text.append((char) below(256));
    }
    return text.toString();
  }

  private String page() {
    choosePlace();
    StringBuilder page = new StringBuilder();
    int f = below(3) - 1;
    int n = m.print(stone, line, f);
    for (int i = 0; i < n; i++) {
      page.append((char) m.printed(stone, line, f, i));
    }
    if (below(4) == 0 && page.length() > 0) {
      page.setCharAt(below(page.length()), PRINTS.charAt(below(PRINTS.length())));
    }
    return page.toString();
  }

  private void choosePlace() {
    stone = number(m.count(0));
    line = number(below(4) + 1);
    place = number(below(4) == 0 ? 24 : 6);
  }

  private long[] arguments(String name, int wide) {
    int hand = number(m.count(1));
    int formula = number(m.count(2));
    int person = number(m.count(3));
    int side = number(2);
    if (!name.equals("back")) {
      choosePlace();
    }
    switch (name) {
      case "stone":
        return list(between(1, wide), between(1, below(6) == 0 ? 24 : 8));
      case "hand":
        return list(between(0, 9));
      case "read":
        int kind = number(6);
        return list(hand, stone, line, place, kind, kind == 2 ? half() : letter());
      case "forget":
        return list(hand, stone, line, place);
      case "sign":
        return list(stone, line, place, number(4));
      case "feed":
        return new long[] {between(1, 8), packed(mixed(SIGNS), 0)};
      case "text":
        return list(formula, number(6), number(8));
      case "ways":
      case "whole":
        return list(stone, line, formula);
      case "way":
        return list(stone, line, formula, number(4));
      case "carried":
        return list(stone, line, place, formula);
      case "fits":
        return list(stone, line);
      case "edge":
        return list(stone, side, line, below(5) == 0 ? between(0, 9) : number(3));
      case "tolerance":
        return list(below(6) == 0 ? number(4) : -5);
      case "room":
        return list(stone, number(m.count(0)));
      case "best":
      case "joined":
        return list(stone, side);
      case "join":
        return list(stone, below(4) == 0 ? number(m.count(0)) : m.best(stone, 1));
      case "part":
        return list(below(3) == 0 ? stone : -1);
      case "years":
        return yearsOf();
      case "bound":
        return list(stone, number(m.count(0)), below(9) == 0 ? between(-202, 202) : between(-120, 30));
      case "loose":
        return list(below(2));
      case "span":
        return list(stone, side);
      case "person":
        return list(word(), below(2) == 0 ? 0 : word(), stone);
      case "one":
        return list(person, number(m.count(3)));
      case "group":
      case "father":
        return list(person);
      case "texts":
        return list(formula);
      case "print":
        return list(stone, line, below(4) == 0 ? -1 : formula);
      case "printed":
        return list(stone, line, below(4) == 0 ? -1 : formula, number(20));
      case "back":
        return list(hand, stone, line);
      case "count":
        return list(number(9));
      case "tray":
        return list(number(4), between(-1, 40));
      case "cell":
        int v = below(3) == 0 ? number(1 << 20) : SIGNS.charAt(below(SIGNS.length()));
        return list(number(4), number(12), v);
      case "lay":
        return list(hand, stone, line, number(4), number(6));
      case "taken":
        return list(hand, stone, line, place, number(6));
      default:
        return list();
    }
  }

  private static long[] list(int... numbers) {
    return Arrays.stream(numbers).asLongStream().toArray();
  }

  private long[] yearsOf() {
    int least = between(-999, 900);
    int most = Math.min(below(30) == 0 ? 1000 : 999, least + between(-2, 300));
    return below(2) == 0 ? list(stone, -999, 999) : list(stone, least, most);
  }

  private int letter() {
    return below(3) == 0 ? number(27) : below(2) == 0 ? below(5) : 26;
  }

  private int half() {
    int bits = below(1 << 6) | (below(2) << 26);
    return below(12) == 0 ? number(1 << 27) : bits;
  }

  private int word() {
    return below(8) == 0 ? number(1000) : 1 + below(3);
  }
}
