/** What the project's tests have in common: answers that are due, and bytes for the tape. */
final class Due {
  static final int NONE = InscribedStones.NONE;
  static final int BAD = InscribedStones.BAD;
  static final int STATE = InscribedStones.STATE;
  static final int FULL = InscribedStones.FULL;
  static final int ANY = (1 << 27) - 1;

  private static int wrong = 0;
  private static int asked = 0;

  private Due() {}

  static void due(String what, long got, long want) {
    asked++;
    if (got != want) {
      wrong++;
      System.out.println(what + " answered " + got + ", due is " + want);
    }
  }

  /** Feeds a text to the tape; the answer to the last feed. */
  static int feed(InscribedStones x, String text) {
    int answer = 0;
    for (int at = 0; at < text.length(); at += 8) {
      int n = Math.min(8, text.length() - at);
      long bytes = 0;
      for (int i = 0; i < n; i++) {
        bytes |= (long) text.charAt(at + i) << (8 * i);
      }
      answer = x.feed(n, bytes);
    }
    return answer;
  }

  static int formula(InscribedStones x, String text) {
    feed(x, text);
    return x.formula();
  }

  static int back(InscribedStones x, int hand, int stone, int line, String text) {
    feed(x, text);
    return x.back(hand, stone, line);
  }

  /** A person's name as the number that tells it. */
  static long name(String word) {
    long number = 0;
    for (int i = 0; i < word.length(); i++) {
      number = number * 27 + (word.charAt(i) - 'a' + 1);
    }
    return number;
  }

  static String text(InscribedStones x, int formula, int i) {
    StringBuilder letters = new StringBuilder();
    for (int k = 0; k < 30; k++) {
      int letter = x.text(formula, i, k);
      if (letter < 0) {
        break;
      }
      letters.append(letter == 26 ? '_' : (char) ('a' + letter));
    }
    return letters.toString();
  }

  /** All texts of a formula, in their order, with commas between. */
  static String texts(InscribedStones x, int formula) {
    StringBuilder all = new StringBuilder();
    for (int i = 0; i < x.texts(formula); i++) {
      all.append(i == 0 ? "" : ",").append(text(x, formula, i));
    }
    return all.toString();
  }

  static String printed(InscribedStones x, int stone, int line, int formula) {
    StringBuilder bytes = new StringBuilder();
    int n = x.print(stone, line, formula);
    for (int i = 0; i < n; i++) {
      bytes.append((char) x.printed(stone, line, formula, i));
    }
    return bytes.toString();
  }

  static void same(String what, String got, String want) {
    asked++;
    if (!got.equals(want)) {
      wrong++;
      System.out.println(what + " answered \"" + got + "\", due is \"" + want + "\"");
    }
  }

  static void end() {
    System.out.println(asked + " answers asked, " + wrong + " wrong");
    if (wrong != 0) {
      System.exit(1);
    }
  }
}
