import java.util.function.IntUnaryOperator;

/** Short names for the tests' own use. */
abstract class Asking {
  static final int NONE = Due.NONE;
  static final int BAD = Due.BAD;
  static final int STATE = Due.STATE;
  static final int FULL = Due.FULL;
  static final int ANY = Due.ANY;

  static void due(String what, long got, long want) {
    Due.due(what, got, want);
  }

  static void same(String what, String got, String want) {
    Due.same(what, got, want);
  }

  /** A call of one number, which answers the same at both ends of what it takes. */
  static void range(String what, IntUnaryOperator call, int least, int most, int answer) {
    due(what + ", the first that is taken, " + least, call.applyAsInt(least), answer);
    due(what + ", the last that is taken, " + most, call.applyAsInt(most), answer);
    refused(what, call, least, most, BAD);
  }

  /** What a call of one number answers beyond both ends, near and as far off as numbers go. */
  static void refused(String what, IntUnaryOperator call, int least, int most, int answer) {
    for (int v : new int[] {least - 1, Integer.MIN_VALUE, most + 1, Integer.MAX_VALUE}) {
      due(what + ", refused, " + v, call.applyAsInt(v), answer);
    }
  }

  /** A new object with so many stones of as many lines and places, and so many hands of rank 5. */
  static InscribedStones made(int stones, int lines, int places, int hands) {
    InscribedStones x = new InscribedStones();
    for (int i = 0; i < stones; i++) {
      x.stone(lines, places);
    }
    for (int i = 0; i < hands; i++) {
      x.hand(5);
    }
    return x;
  }

  /** So many letters from one on, with a text between each two. */
  static String letters(char from, int n, String between) {
    StringBuilder letters = new StringBuilder();
    for (int i = 0; i < n; i++) {
      letters.append(i == 0 ? "" : between).append((char) (from + i));
    }
    return letters.toString();
  }
}
