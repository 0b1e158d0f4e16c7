/** The boundaries that 6 PRINTED and promises 32 to 35 name, each by the sentence that names it. */
public final class PrintedLimitsTest extends Asking {
  public static void main(String[] args) {
    printArguments();
    printedArguments();
    leastAndMostBytes();
    everyLetterOfEachKind();
    carriedOrNot();
    byNoneAndWithoutWays();
    backArguments();
    aRefusedBackLeavesTheTape();
    everyByteBare();
    everyByteWithin();
    everyClosingByte();
    fewerPlacesThanTheLine();
    morePlacesThanTheLine();
    faultsReadNothing();
    longestPages();
    readBackOverWhatStood();
    readBackBesideItsNeighbours();
    countArguments();
    everyCount();
    Due.end();
  }

  // "How many bytes a LINE is PRINTED with by a FORMULA (NONE: none). BAD."
  private static void printArguments() {
    InscribedStones x = made(2, 3, 4, 1);
    Due.formula(x, "zz|z.");
    Due.formula(x, "zz|z.");
    range("P32 stone", n -> x.print(n, 0, NONE), 0, 1, 4);
    range("P32 line", n -> x.print(0, n, NONE), 0, 2, 4);
    refused("P32 formula", n -> x.print(0, 0, n), -1, 1, BAD);
    due("P32 by none", x.print(0, 0, NONE), 4);
    due("P32 by the first", x.print(0, 0, 0), 10);
    due("P32 by the last", x.print(0, 0, 1), 10);
    due("P32 by the first, of none", made(1, 1, 1, 0).print(0, 0, 0), BAD);
  }

  // "Byte i of that. NONE: none such. BAD."
  private static void printedArguments() {
    InscribedStones x = made(2, 3, 4, 1);
    Due.formula(x, "zz|z.");
    Due.formula(x, "zz|z.");
    range("P33 stone", n -> x.printed(n, 0, NONE, 0), 0, 1, '-');
    range("P33 line", n -> x.printed(0, n, NONE, 0), 0, 2, '-');
    refused("P33 formula", n -> x.printed(0, 0, n, 0), -1, 1, BAD);
    refused("P33 formula, though none such", n -> x.printed(0, 0, n, -1), -1, 1, BAD);
    refused("P33 line, though none such", n -> x.printed(0, n, NONE, 99), 0, 2, BAD);
    refused("P33 i by none", n -> x.printed(0, 0, NONE, n), 0, 3, NONE);
    refused("P33 i by a formula", n -> x.printed(0, 0, 0, n), 0, 9, NONE);
    due("P33 the first by none", x.printed(0, 0, NONE, 0), '-');
    due("P33 the last by none", x.printed(0, 0, NONE, 3), '-');
    due("P33 the first by a formula", x.printed(0, 0, 0, 0), '[');
    due("P33 the last by a formula", x.printed(0, 0, 0, 9), ']');
    due("P33 the last by the last", x.printed(1, 2, 1, 9), ']');
  }

  private static void leastAndMostBytes() {
    for (int places = 1; places <= 24; places++) {
      InscribedStones x = made(1, 1, places, 1);
      Due.formula(x, "[z]|zz.");
      Due.formula(x, "z.");
      due("P32 one byte each, " + places, x.print(0, 0, NONE), places);
      due("P33 none behind", x.printed(0, 0, NONE, places), NONE);
      due("P32 three bytes each, " + places, x.print(0, 0, 1), 3 * places);
      due("P33 the last", x.printed(0, 0, 1, 3 * places - 1), ']');
      due("P33 none behind", x.printed(0, 0, 1, 3 * places), NONE);
      // The first two places are carried by none of them, or by the one that is short enough.
      due("P32 both", x.print(0, 0, 0), places > 2 ? 2 + 3 * (places - 2) : places);
    }
  }

  private static String shown(int letter) {
    return letter == 26 ? "_" : "" + (char) ('a' + letter);
  }

  // "SIGN, SURE: the letter; ADDED: < letter >" "blanks are written _"
  private static void everyLetterOfEachKind() {
    for (int letter = 0; letter <= 26; letter++) {
      InscribedStones x = made(1, 1, 3, 1);
      x.read(0, 0, 0, 0, 0, letter);
      x.read(0, 0, 0, 1, 1, letter);
      x.read(0, 0, 0, 2, 5, letter);
      String s = shown(letter);
      same("P32 letter " + letter, Due.printed(x, 0, 0, NONE), s + s + "<" + s + ">");
    }
  }

  // "HALF, GONE, ERASED: [ letter ] if the PLACE is CARRIED; else, HALF: ? ; GONE: - ; ERASED: # ."
  private static void carriedOrNot() {
    for (int letter = 0; letter < 26; letter++) {
      InscribedStones x = made(1, 1, 5, 1);
      String s = shown(letter);
      Due.formula(x, s.repeat(4) + ".");
      x.read(0, 0, 0, 0, 2, ANY);
      x.read(0, 0, 0, 1, 3, 0);
      x.read(0, 0, 0, 2, 4, 0);
      String carried = "[" + s + "]";
      same("P32 all kinds, " + s, Due.printed(x, 0, 0, 0), carried.repeat(4) + "[_]");
      same("P32 by none", Due.printed(x, 0, 0, NONE), "?-#--");
    }
    InscribedStones x = made(1, 1, 3, 1);
    Due.formula(x, "abc|dbe.");
    same("P32 two ways", Due.printed(x, 0, 0, 0), "-[b]-");
    x.read(0, 0, 0, 2, 2, 1 << 2 | 1 << 5);
    same("P32 one way", Due.printed(x, 0, 0, 0), "[a][b][c]");
    x.read(0, 0, 0, 2, 2, 1 << 2 | 1 << 4);
    x.read(0, 0, 0, 0, 4, 0);
    same("P32 two ways again", Due.printed(x, 0, 0, 0), "#[b]?");
  }

  private static void byNoneAndWithoutWays() {
    InscribedStones x = made(1, 1, 4, 1);
    Due.formula(x, "abcde.");
    Due.formula(x, "abcd.");
    x.read(0, 0, 0, 0, 2, 3);
    x.read(0, 0, 0, 3, 4, 0);
    same("P32 by none", Due.printed(x, 0, 0, NONE), "?--#");
    same("P32 by one without ways", Due.printed(x, 0, 0, 0), "?--#");
    same("P32 by one with a way", Due.printed(x, 0, 0, 1), "[a][b][c][d]");
    same("P32 by none behind that", Due.printed(x, 0, 0, NONE), "?--#");
    x.read(0, 0, 0, 1, 0, 25);
    same("P32 a way no more", Due.printed(x, 0, 0, 1), "?z-#");
  }

  private static InscribedStones fed(String text) {
    InscribedStones x = made(2, 3, 4, 2);
    Due.feed(x, text);
    return x;
  }

  // "BAD: no such (THE TAPE stays)"
  private static void backArguments() {
    range("P34 hand", n -> fed("abcd").back(n, 0, 0), 0, 1, 4);
    range("P34 stone", n -> fed("abcd").back(0, n, 0), 0, 1, 4);
    range("P34 line", n -> fed("abcd").back(0, 0, n), 0, 2, 4);
    range("P34 hand of six", n -> {
      InscribedStones x = made(12, 4, 24, 6);
      Due.feed(x, "abcdefghijklmnopqrstuvwx");
      return x.back(n, 11, 3);
    }, 0, 5, 24);
  }

  private static void aRefusedBackLeavesTheTape() {
    InscribedStones x = fed("a)");
    int[][] bad = {{2, 0, 0}, {-1, 0, 0}, {0, 2, 0}, {0, -1, 0}, {0, 0, 3}, {0, 0, -1}};
    for (int[] b : bad) {
      due("P34 bad ahead of a fault", x.back(b[0], b[1], b[2]), BAD);
      due("P34 the tape stays", x.count(6), 2);
    }
    due("P34 a fault", x.back(0, 0, 0), -21);
    due("P34 the tape is empty then", x.count(6), 0);
    for (int[] b : bad) {
      due("P34 bad with no tape", x.back(b[0], b[1], b[2]), BAD);
    }
    due("P34 a fault of no bytes", x.back(0, 0, 0), -20);
  }

  private static boolean isLetter(int b) {
    return b >= 'a' && b <= 'z' || b == '_';
  }

  // "letters as SIGNS, .. ?, - as GONE, # as ERASED" "the first byte that can't stand there"
  private static void everyByteBare() {
    for (int b = 0; b < 256; b++) {
      InscribedStones x = made(1, 1, 2, 1);
      boolean good = isLetter(b) || b == '?' || b == '-' || b == '#';
      int place = b == '<' || b == '[' ? 2 : 1;
      due("P34 byte " + b, Due.back(x, 0, 0, 0, "a" + (char) b), good ? 2 : -20 - place);
      due("P35 the tape is empty then", x.count(6), 0);
      int letter = b == '_' ? 26 : b - 'a';
      due("P6 its kind", x.sign(0, 0, 1, 0), good && isLetter(b) ? 0 : b == '#' ? 4 : 3);
      due("P6 its may", x.sign(0, 0, 1, 1), isLetter(b) ? 1 << letter : ANY);
      due("P6 its hand", x.sign(0, 0, 1, 2), good ? 0 : NONE);
      due("P6 the first", x.sign(0, 0, 0, 2), good ? 0 : NONE);
    }
  }

  // "< > as ADDED, [ ] .. as GONE"
  private static void everyByteWithin() {
    for (int b = 0; b < 256; b++) {
      InscribedStones x = made(1, 1, 2, 1);
      due("P34 added " + b, Due.back(x, 0, 0, 0, "<" + (char) b + ">_"), isLetter(b) ? 2 : -21);
      due("P6 its kind", x.sign(0, 0, 0, 0), isLetter(b) ? 5 : 3);
      int letter = b == '_' ? 26 : b - 'a';
      due("P6 its may", x.sign(0, 0, 0, 1), isLetter(b) ? 1 << letter : ANY);
      InscribedStones y = made(1, 1, 2, 1);
      due("P34 gone " + b, Due.back(y, 0, 0, 0, "[" + (char) b + "]_"), isLetter(b) ? 2 : -21);
      due("P6 its kind", y.sign(0, 0, 0, 0), 3);
      due("P6 its may", y.sign(0, 0, 0, 1), ANY);
      due("P6 its hand", y.sign(0, 0, 0, 2), isLetter(b) ? 0 : NONE);
    }
  }

  private static void everyClosingByte() {
    for (int b = 0; b < 256; b++) {
      InscribedStones x = made(1, 1, 1, 1);
      due("P34 added, closed by " + b, Due.back(x, 0, 0, 0, "<a" + (char) b), b == '>' ? 1 : -22);
      due("P34 gone, closed by " + b, Due.back(x, 0, 0, 0, "[a" + (char) b), b == ']' ? 1 : -22);
      due("P34 one behind, " + b, Due.back(x, 0, 0, 0, "a" + (char) b), -21);
      due("P34 one behind, " + b, Due.back(x, 0, 0, 0, "[a]" + (char) b), -23);
    }
  }

  // "(its size, if it has fewer PLACES than the LINE)"
  private static void fewerPlacesThanTheLine() {
    String page = "a<b>_[c]?-#<_>";
    int[] ends = {0, 1, 4, 5, 8, 9, 10, 11, 14};
    for (int places = 1; places <= 8; places++) {
      for (int size = 0; size < ends[places]; size++) {
        InscribedStones x = made(1, 1, places, 1);
        int answer = Due.back(x, 0, 0, 0, page.substring(0, size));
        due("P34 " + size + " bytes on " + places, answer, -20 - size);
        due("P6 nothing is read", x.sign(0, 0, 0, 2), NONE);
      }
      InscribedStones x = made(1, 1, places, 1);
      due("P34 just enough", Due.back(x, 0, 0, 0, page.substring(0, ends[places])), places);
    }
  }

  private static void morePlacesThanTheLine() {
    String page = "a<b>_[c]?-#<_>";
    int[] ends = {0, 1, 4, 5, 8, 9, 10, 11, 14};
    for (int places = 1; places < 8; places++) {
      InscribedStones x = made(1, 1, places, 1);
      due("P34 more than " + places, Due.back(x, 0, 0, 0, page), -20 - ends[places]);
      due("P6 nothing is read", x.sign(0, 0, 0, 2), NONE);
      due("P35 the tape is empty then", x.count(6), 0);
    }
    InscribedStones x = made(1, 1, 1, 1);
    due("P34 200 bytes on one place", Due.back(x, 0, 0, 0, "a".repeat(200)), -21);
    due("P34 200 blanks", Due.back(x, 0, 0, 0, " ".repeat(200)), -20);
  }

  // "Nothing is read then (THE TAPE is empty all the same)."
  private static void faultsReadNothing() {
    String[] bad = {"", "abc", "abc ", "abcde", "a<b>c[d", "a<b>c[d>", "abc(", "<a>[b]?A"};
    for (String page : bad) {
      InscribedStones x = made(1, 2, 4, 2);
      x.read(0, 0, 0, 0, 0, 9);
      x.read(0, 0, 0, 3, 2, 96);
      x.read(1, 0, 0, 1, 5, 1);
      due("P34 refused", Due.back(x, 0, 0, 0, page) <= -20 ? 1 : 0, 1);
      due("P39 what stood first", x.taken(0, 0, 0, 0, 0), 1 << 9);
      due("P39 not read", x.taken(0, 0, 0, 1, 0), -11);
      due("P39 not read", x.taken(0, 0, 0, 2, 0), -11);
      due("P39 what stood last", x.taken(0, 0, 0, 3, 2), 96);
      due("P39 another hand's", x.taken(1, 0, 0, 1, 5), 2);
      due("P35 the tape is empty then", x.count(6), 0);
    }
  }

  private static void longestPages() {
    InscribedStones x = made(1, 4, 24, 1);
    due("P34 72 bytes", Due.back(x, 0, 0, 3, "<z>".repeat(24)), 24);
    due("P32 72 bytes", x.print(0, 3, NONE), 72);
    due("P34 73 bytes", Due.back(x, 0, 0, 3, "[z]".repeat(24) + "-"), -92);
    due("P34 71 bytes", Due.back(x, 0, 0, 3, "[z]".repeat(23) + "[z"), -91);
    due("P34 69 bytes", Due.back(x, 0, 0, 3, "[z]".repeat(23)), -89);
    due("P32 as it was", x.print(0, 3, NONE), 72);
    due("P34 24 bytes", Due.back(x, 0, 0, 3, "#".repeat(24)), 24);
    due("P34 25 bytes", Due.back(x, 0, 0, 3, "-".repeat(25)), -44);
    same("P32 the last that was read", Due.printed(x, 0, 3, NONE), "#".repeat(24));
  }

  private static void readBackOverWhatStood() {
    InscribedStones x = made(2, 2, 2, 2);
    for (int i = 0; i < 16; i++) {
      x.read(i & 1, i >> 1 & 1, i >> 2 & 1, i >> 3, 0, 5);
    }
    due("P34 two", Due.back(x, 1, 0, 1, "?<m>"), 2);
    for (int i = 0; i < 16; i++) {
      boolean read = (i & 7) == 5;
      int may = !read ? 1 << 5 : i == 5 ? ANY : 1 << 12;
      due("P39 of all places that line alone, " + i, x.taken(i & 1, i >> 1 & 1, i >> 2 & 1, i >> 3, 0), may);
    }
  }

  // The lines that stand ahead and behind are not this one.
  private static void readBackBesideItsNeighbours() {
    for (int at = 0; at < 12; at++) {
      InscribedStones x = made(2, 3, 24, 2);
      for (int i = 0; i < 24; i++) {
        x.read(i / 12, i / 6 % 2, i / 2 % 3, i % 2 * 23, 0, i);
      }
      due("P34 24 places", Due.back(x, at / 6, at / 3 % 2, at % 3, "<z>".repeat(24)), 24);
      for (int i = 0; i < 24; i++) {
        int taken = x.taken(i / 12, i / 6 % 2, i / 2 % 3, i % 2 * 23, 0);
        due("P39 beside " + at + ", " + i, taken, i / 2 == at ? 1 << 25 : 1 << i);
      }
    }
  }

  // "How many: 0 STONES .. 8 TOLERANCE. BAD."
  private static void countArguments() {
    refused("P35 what", n -> new InscribedStones().count(n), 0, 8, BAD);
    for (int what = 0; what <= 8; what++) {
      due("P35 what " + what, new InscribedStones().count(what), what == 8 ? 1 : 0);
    }
  }

  private static void everyCount() {
    int[] most = {12, 6, 8, 12, 20, 1, 200, 12, 3};
    InscribedStones x = made(12, 1, 1, 6);
    for (int i = 0; i < 8; i++) {
      Due.formula(x, "a.");
    }
    for (int i = 0; i < 12; i++) {
      x.person(i + 1, 0, 0);
    }
    for (int i = 0; i < 20; i++) {
      x.bound(0, 1, 0);
    }
    x.tolerance(3);
    x.join(0, 1);
    Due.feed(x, " ".repeat(200));
    for (int what = 0; what <= 8; what++) {
      due("P35 as many as can be of " + what, x.count(what), most[what]);
    }
  }
}
