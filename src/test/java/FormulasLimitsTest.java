/** The boundaries that 2 FORMULAS and promises 7 and 8 name, each by the sentence that names it. */
public final class FormulasLimitsTest extends Asking {
  public static void main(String[] args) {
    feedTakesOneToEight();
    theLowestBytesTheLowestFirst();
    tapeOf200Bytes();
    aFeedThatIsFullChangesNothing();
    wordsOfEightLetters();
    everyByteAtTheBeginning();
    everyByteBehindAWord();
    everyByteBehindThePoint();
    everyByteBehindABracket();
    blanksBetween();
    fourBracketsOpen();
    endsTooEarly();
    theFirstTokenThatCannotStand();
    bracketsThatCloseAnother();
    Due.end();
  }

  // "The n lowest bytes of a number .. BAD: n is not 1 .. 8."
  private static void feedTakesOneToEight() {
    for (int n = 1; n <= 8; n++) {
      due("P7 n " + n, new InscribedStones().feed(n, 0), n);
    }
    refused("P7 n", n -> new InscribedStones().feed(n, 0), 1, 8, BAD);
    refused("P7 nothing comes by n", n -> {
      InscribedStones x = new InscribedStones();
      x.feed(n, 0x2e61);
      return x.count(6);
    }, 1, 8, 0);
  }

  private static void theLowestBytesTheLowestFirst() {
    long word = 0x6867666564636261L;
    for (int n = 1; n <= 8; n++) {
      InscribedStones x = new InscribedStones();
      x.feed(n, word);
      due("P7 behind " + n, x.feed(1, 0x7a7a7a7a7a7a7a2eL), n + 1);
      due("P8 a formula", x.formula(), 0);
      same("P7 the lowest " + n, Due.text(x, 0, 0), "abcdefgh".substring(0, n));
    }
    InscribedStones x = new InscribedStones();
    x.feed(8, 0x2e20202020202061L);
    due("P7 the highest byte is the last", x.formula(), 0);
    due("P7 the highest bit", x.feed(8, Long.MIN_VALUE | 0x6161616161616161L >>> 8), 8);
    due("P7 it is of the last byte", x.formula(), -27);
  }

  private static InscribedStones tapeOf(int size) {
    InscribedStones x = new InscribedStones();
    Due.feed(x, " ".repeat(size));
    due("P35 bytes of the tape", x.count(6), size);
    return x;
  }

  // "THE TAPE (200 bytes at most)." "FULL."
  private static void tapeOf200Bytes() {
    for (int n = 1; n <= 8; n++) {
      due("P7 up to 200 by " + n, tapeOf(200 - n).feed(n, 0), 200);
      InscribedStones x = tapeOf(201 - n);
      due("P7 up to 201 by " + n, x.feed(n, 0), FULL);
      due("P7 nothing came", x.count(6), 201 - n);
    }
    InscribedStones x = tapeOf(200);
    due("P7 bad ahead of full", x.feed(0, 0), BAD);
    due("P7 bad ahead of full", x.feed(9, 0), BAD);
    due("P7 full by the longest", x.feed(8, 0), FULL);
    due("P35 still 200", x.count(6), 200);
  }

  private static void aFeedThatIsFullChangesNothing() {
    InscribedStones x = new InscribedStones();
    Due.feed(x, " ".repeat(196) + "ab");
    due("P7 full", x.feed(3, 0x7a7a2eL), FULL);
    due("P7 one may come yet", x.feed(1, '.'), 199);
    due("P8 of 199 bytes", x.formula(), 0);
    same("P7 none of the refused ones", Due.texts(x, 0), "ab");
    due("P7 empty then", x.feed(8, 0), 8);
    x = new InscribedStones();
    Due.feed(x, "a" + " ".repeat(198) + ".");
    due("P8 of 200 bytes", x.formula(), 0);
  }

  private static void answers(String formula, int answer) {
    InscribedStones x = new InscribedStones();
    due("P8 \"" + formula + "\"", Due.formula(x, formula), answer);
    due("P8 kept or not", x.count(2), answer == 0 ? 1 : 0);
    due("P8 the tape is empty then", x.count(6), 0);
  }

  private static void faulty(String formula, int place) {
    answers(formula, -20 - place);
  }

  // "WORDS (letters a .. z, 8 at most)" "a WORD that is too long"
  private static void wordsOfEightLetters() {
    for (int n = 1; n <= 60; n++) {
      String word = "abcdefgh".repeat(8).substring(0, n);
      String behind = "[(" + word + ")].";
      answers(word + ".", n <= 8 ? 0 : -20);
      answers("  " + word + ".", n <= 8 ? 0 : -22);
      answers(behind, n <= 8 ? 0 : -22);
      faulty(word, n <= 8 ? n : 0);
    }
    faulty("abcdefgh abcdefghi abcdefghi.", 9);
    faulty("a|abcdefghi", 2);
    faulty("a" + "b".repeat(199), 0);
    answers("abcdefgh(i).", 0);
    answers("abcdefgh\ni.", 0);
  }

  private static String kindOf(int b) {
    if (b >= 97 && b <= 122) {
      return "letter";
    }
    return b == 32 || b == 10 ? "blank" : b == '(' || b == '[' ? "opening" : "none";
  }

  // "The first byte of the first TOKEN that can't stand there .. also of a byte that begins none."
  private static void everyByteAtTheBeginning() {
    for (int b = 0; b < 256; b++) {
      String kind = kindOf(b);
      int answer = kind.equals("letter") ? 0 : kind.equals("none") ? -20 : -21;
      answers((char) b + ".", answer);
    }
  }

  private static void everyByteBehindAWord() {
    for (int b = 0; b < 256; b++) {
      String kind = kindOf(b);
      boolean good = kind.equals("letter") || kind.equals("blank");
      boolean goesOn = kind.equals("opening") || b == '|' || b == '.';
      answers("a" + (char) b + ".", good ? 0 : goesOn ? -22 : -21);
    }
  }

  // "ALL and a point, then nothing."
  private static void everyByteBehindThePoint() {
    for (int b = 0; b < 256; b++) {
      answers("a." + (char) b, kindOf(b).equals("blank") ? 0 : -22);
    }
  }

  private static void everyByteBehindABracket() {
    for (int b = 0; b < 256; b++) {
      String kind = kindOf(b);
      int place = kind.equals("letter") ? 2 : kind.equals("none") ? 1 : 2;
      faulty("(" + (char) b + ".", place);
      faulty("[" + (char) b + ".", place);
      faulty("[a|" + (char) b + ".", place + 2);
    }
  }

  // "blanks (32, 10) may stand between."
  private static void blanksBetween() {
    answers("\n a \n( \n b|c ) \n[\nd ]\n.\n ", 0);
    for (int b : new int[] {0, 1, 9, 11, 13, 31, 33, 127, 160, 255}) {
      faulty((char) b + "a.", 0);
      faulty("a" + (char) b + "b.", 1);
      faulty("(" + (char) b + "a).", 1);
      faulty("a " + (char) b + ".", 2);
    }
  }

  private static String opened(int bits, int n) {
    StringBuilder text = new StringBuilder();
    for (int i = 0; i < n; i++) {
      text.append((bits >> i & 1) == 0 ? '(' : '[');
    }
    return text.toString();
  }

  private static String closed(int bits, int n) {
    StringBuilder text = new StringBuilder();
    for (int i = n - 1; i >= 0; i--) {
      text.append((bits >> i & 1) == 0 ? ')' : ']');
    }
    return text.toString();
  }

  // "a ( or [ while 4 of these are open"
  private static void fourBracketsOpen() {
    for (int bits = 0; bits < 32; bits++) {
      int four = bits & 15;
      answers(opened(four, 4) + "a" + closed(four, 4) + ".", 0);
      faulty(opened(bits, 5) + "a" + closed(bits, 5) + ".", 4);
      faulty(opened(four, 4) + "a " + opened(bits >> 1, 1), 6);
    }
    answers("((((a)b)c)d)e.", 0);
    answers("((((a)(b)[c]))).", 0);
    answers("[[[[a][b]|[c]]]].", 0);
    faulty("((((a)(b)[(c)])))", 10);
    answers("((((a))))((((b)))).", 0);
    answers("(a)(b)(c)(d)(e)(f)[g][h].", 0);
    faulty("((((a))))(((((b", 13);
  }

  // "(the text's size, if it ends too early)"
  private static void endsTooEarly() {
    String formula = "(a|[b c]) d \n[e|(f)g]|hi.";
    for (int n = 0; n < formula.length(); n++) {
      faulty(formula.substring(0, n), n);
    }
    answers(formula, 0);
    for (int n = 0; n <= 200; n += 25) {
      faulty(" ".repeat(n), n);
    }
    faulty("a ".repeat(100), 200);
    faulty("(" + "a|".repeat(99) + "b", 200);
    faulty("a ".repeat(99) + "a)", 199);
    answers("a ".repeat(99) + "a.", STATE);
  }

  private static void theFirstTokenThatCannotStand() {
    faulty("a)b)c.", 1);
    faulty("a..", 2);
    faulty("a.  .", 4);
    faulty("a|b|)c.", 4);
    faulty("(a|b|c|.", 7);
    faulty("(a).(b).", 4);
    faulty("[a]]", 3);
    faulty("] A", 0);
    faulty("A ]", 0);
    faulty("a A abcdefghi", 2);
    faulty("a abcdefghi A", 2);
    faulty("a.abcdefghi", 2);
    faulty("|", 0);
    faulty(")", 0);
    faulty("]", 0);
    faulty("(|", 1);
    faulty("[|a].", 1);
    faulty("[a|].", 3);
    faulty("[].", 1);
    faulty("().", 1);
    faulty("a().", 2);
    faulty("a[] b.", 2);
    faulty("(.", 1);
    faulty("[a.", 2);
    faulty("(a|b.", 4);
  }

  // "( ALL ), or [ ALL ]": a bracket is closed by its own one alone.
  private static void bracketsThatCloseAnother() {
    faulty("(a].", 2);
    faulty("[a).", 2);
    faulty("[(a]).", 3);
    faulty("([a]].", 4);
    faulty("((a)].", 4);
    faulty("[[a]).", 4);
    faulty("[(a)).", 4);
    faulty("((((a]", 5);
    faulty("[[[[a)", 5);
    answers("([a]).", 0);
    answers("[(a)].", 0);
  }
}
