/** Promises 32 to 35: printed lines, lines read back, and counts. */
public final class PrintedTest extends Asking {
  public static void main(String[] args) {
    printing();
    printingByFormulas();
    longestPage();
    printsThatAreNone();
    readingBack();
    faultsOfBack();
    backThatIsBad();
    thereAndBack();
    counts();
    Due.end();
  }

  private static InscribedStones line(int places) {
    InscribedStones x = new InscribedStones();
    x.stone(2, places);
    x.hand(4);
    return x;
  }

  private static void printing() {
    InscribedStones x = line(9);
    same("P32 unread", Due.printed(x, 0, 0, NONE), "---------");
    x.read(0, 0, 0, 0, 0, 0);
    x.read(0, 0, 0, 1, 1, 25);
    x.read(0, 0, 0, 2, 2, 6);
    x.read(0, 0, 0, 3, 3, 0);
    x.read(0, 0, 0, 4, 4, 0);
    x.read(0, 0, 0, 5, 5, 12);
    x.read(0, 0, 0, 6, 0, 26);
    x.read(0, 0, 0, 7, 5, 26);
    due("P32 bytes", x.print(0, 0, NONE), 13);
    same("P32 all kinds", Due.printed(x, 0, 0, NONE), "az?-#<m>_<_>-");
    same("P32 the other line", Due.printed(x, 0, 1, NONE), "---------");
    x.hand(5);
    x.read(1, 0, 0, 0, 4, 0);
    same("P32 the reading by rank", Due.printed(x, 0, 0, NONE), "#z?-#<m>_<_>-");
  }

  private static void printingByFormulas() {
    InscribedStones x = line(6);
    Due.formula(x, "ab c|ad c.");
    Due.formula(x, "zz.");
    same("P32 carried", Due.printed(x, 0, 0, 0), "[a]-[_][c][_][_]");
    x.read(0, 0, 0, 0, 4, 0);
    x.read(0, 0, 0, 1, 2, 1 << 1 | 1 << 3);
    x.read(0, 0, 0, 3, 2, 1 << 2 | 1 << 5);
    same("P32 half and erased", Due.printed(x, 0, 0, 0), "[a]?[_][c][_][_]");
    x.read(0, 0, 0, 0, 0, 0);
    x.read(0, 0, 0, 3, 1, 2);
    x.read(0, 0, 0, 2, 5, 26);
    same("P32 what is read bare", Due.printed(x, 0, 0, 0), "a?<_>c[_][_]");
    same("P32 by none", Due.printed(x, 0, 0, NONE), "a?<_>c--");
    same("P32 without ways", Due.printed(x, 0, 0, 1), "a?<_>c--");
    x.read(0, 0, 0, 1, 4, 0);
    same("P32 erased", Due.printed(x, 0, 0, 0), "a#<_>c[_][_]");
    x.read(0, 0, 0, 1, 2, 1 << 1 | 1 << 6);
    same("P32 carried by what is half", Due.printed(x, 0, 0, 0), "a[b]<_>c[_][_]");
  }

  private static void longestPage() {
    InscribedStones x = line(24);
    Due.formula(x, "zabcdefg hijklmno pqrstu.");
    due("P32 72 bytes", x.print(0, 0, 0), 72);
    same("P32 all of it", Due.printed(x, 0, 0, 0),
        "[z][a][b][c][d][e][f][g][_][h][i][j][k][l][m][n][o][_][p][q][r][s][t][u]");
    due("P33 the 73rd", x.printed(0, 0, 0, 72), NONE);
    due("P32 and by none", x.print(0, 0, NONE), 24);
    due("P33 nothing left behind", x.printed(0, 0, NONE, 24), NONE);
  }

  private static void printsThatAreNone() {
    InscribedStones x = line(2);
    due("P33 first", x.printed(0, 0, NONE, 0), '-');
    due("P33 behind", x.printed(0, 0, NONE, 2), NONE);
    due("P33 i -1", x.printed(0, 0, NONE, -1), NONE);
    due("P33 i wide", x.printed(0, 0, NONE, Integer.MAX_VALUE), NONE);
    due("P33 i least", x.printed(0, 0, NONE, Integer.MIN_VALUE), NONE);
    due("P32 no formula", x.print(0, 0, 0), BAD);
    due("P32 formula -2", x.print(0, 0, -2), BAD);
    due("P32 no stone", x.print(1, 0, NONE), BAD);
    due("P32 stone -1", x.print(-1, 0, NONE), BAD);
    due("P32 no line", x.print(0, 2, NONE), BAD);
    due("P32 line -1", x.print(0, -1, NONE), BAD);
    due("P33 no formula", x.printed(0, 0, 0, 0), BAD);
    due("P33 formula -2", x.printed(0, 0, -2, 0), BAD);
    due("P33 no stone", x.printed(1, 0, NONE, 0), BAD);
    due("P33 no line", x.printed(0, 2, NONE, 0), BAD);
    due("P33 bad ahead of none", x.printed(0, 2, NONE, 99), BAD);
  }

  private static void readingBack() {
    InscribedStones x = line(9);
    due("P34 nine places", Due.back(x, 0, 0, 1, "az_<m><_>[q]?-#"), 9);
    due("P34 the tape is empty", x.count(6), 0);
    int[] kinds = {0, 0, 0, 5, 5, 3, 3, 3, 4};
    int[] mays = {1, 1 << 25, 1 << 26, 1 << 12, 1 << 26, ANY, ANY, ANY, ANY};
    for (int i = 0; i < 9; i++) {
      due("P34 kind " + i, x.sign(0, 1, i, 0), kinds[i]);
      due("P34 may " + i, x.sign(0, 1, i, 1), mays[i]);
      due("P34 hand " + i, x.sign(0, 1, i, 2), 0);
      due("P34 the other line " + i, x.sign(0, 0, i, 2), NONE);
    }
    x.hand(9);
    due("P34 another hand", Due.back(x, 1, 0, 1, "[_]bcdefghi"), 9);
    due("P34 gone is read as gone", x.sign(0, 1, 0, 2), 1);
    due("P34 gone", x.sign(0, 1, 0, 0), 3);
    due("P34 over what stood", x.sign(0, 1, 8, 1), 1 << 8);
    due("P34 what the first one read", x.taken(0, 0, 1, 1, 0), 1 << 25);
  }

  private static void faultAt(String printed, int place) {
    InscribedStones x = line(3);
    x.read(0, 0, 0, 0, 0, 22);
    due("P34 fault of " + printed, Due.back(x, 0, 0, 0, printed), -20 - place);
    due("P34 the tape is empty", x.count(6), 0);
    due("P34 nothing is read", x.sign(0, 0, 0, 1), 1 << 22);
    due("P34 nothing is read", x.sign(0, 0, 1, 2), NONE);
  }

  private static void faultsOfBack() {
    faultAt("", 0);
    faultAt("ab", 2);
    faultAt("abcd", 3);
    faultAt("abc<", 3);
    faultAt("abc ", 3);
    faultAt("a b", 1);
    faultAt("A", 0);
    faultAt("ab[", 3);
    faultAt("ab[c", 4);
    faultAt("ab[c>", 4);
    faultAt("ab<c]", 4);
    faultAt("ab[cc]", 4);
    faultAt("a<>bc", 2);
    faultAt("a[]bc", 2);
    faultAt("a[?]b", 2);
    faultAt("a< >b", 2);
    faultAt("a<B>b", 2);
    faultAt("[[a]]", 1);
    faultAt("]ab", 0);
    faultAt(">ab", 0);
    faultAt("a]b", 1);
    faultAt("a{b", 1);
    faultAt("a`b", 1);
    faultAt("a\u0000b", 1);
    faultAt("a\u00ffb", 1);
    faultAt("[a]<b>", 6);
    faultAt("[a]<b>-#", 7);
  }

  private static void backThatIsBad() {
    InscribedStones x = line(3);
    Due.feed(x, "abc");
    due("P34 no hand", x.back(1, 0, 0), BAD);
    due("P34 hand -1", x.back(-1, 0, 0), BAD);
    due("P34 no stone", x.back(0, 1, 0), BAD);
    due("P34 stone -1", x.back(0, -1, 0), BAD);
    due("P34 no line", x.back(0, 0, 2), BAD);
    due("P34 line -1", x.back(0, 0, -1), BAD);
    due("P34 the tape stays", x.count(6), 3);
    due("P34 and is read then", x.back(0, 0, 0), 3);
  }

  private static void thereAndBack() {
    InscribedStones x = line(24);
    Due.formula(x, "zabcdefg hijklmno pqrstu.");
    String page = Due.printed(x, 0, 0, 0);
    due("P34 24 places of 3", Due.back(x, 0, 0, 1, page), 24);
    same("P34 gone all of them", Due.printed(x, 0, 1, NONE), "------------------------");
    String added = page.replace('[', '<').replace(']', '>');
    due("P34 24 places of 3", Due.back(x, 0, 0, 1, added), 24);
    same("P34 added all of them", Due.printed(x, 0, 1, NONE), added);
  }

  private static void counts() {
    InscribedStones x = new InscribedStones();
    x.stone(1, 1);
    x.stone(1, 1);
    x.stone(1, 1);
    for (int i = 0; i < 5; i++) {
      x.hand(i);
    }
    Due.formula(x, "a.");
    Due.formula(x, "b.");
    Due.formula(x, "(");
    for (int i = 0; i < 7; i++) {
      x.person(1 + i / 2, 0, 0);
    }
    for (int i = 0; i < 6; i++) {
      x.bound(0, 1, i);
    }
    x.join(0, 1);
    Due.feed(x, "nine byte");
    x.tolerance(1);
    due("P35 joins end", x.count(5), 0);
    x.tolerance(2);
    x.join(0, 1);
    int[] counts = {3, 5, 2, 7, 6, 1, 9, 4, 2};
    for (int what = 0; what < 9; what++) {
      due("P35 count " + what, x.count(what), counts[what]);
    }
    due("P35 count 9", x.count(9), BAD);
    due("P35 count -1", x.count(-1), BAD);
    due("P35 count wide", x.count(Integer.MAX_VALUE), BAD);
  }
}
