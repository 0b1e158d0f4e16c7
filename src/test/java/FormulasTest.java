/** Promises 7 to 14: the tape, formulas, their texts and the ways of a line. */
public final class FormulasTest extends Asking {
  public static void main(String[] args) {
    feeding();
    textsOfFormulas();
    orderOfTexts();
    faults();
    spent();
    fullOfFormulas();
    textsThatAreNone();
    waysOfLines();
    waysByHalves();
    longestLines();
    carriedPlaces();
    fitting();
    Due.end();
  }

  private static void feeding() {
    InscribedStones x = new InscribedStones();
    due("P7 n 0", x.feed(0, 65), BAD);
    due("P7 n 9", x.feed(9, 65), BAD);
    due("P7 n -1", x.feed(-1, 65), BAD);
    due("P7 n least", x.feed(Integer.MIN_VALUE, 65), BAD);
    due("P7 one", x.feed(1, 0x6261L), 1);
    due("P7 the lowest alone", x.feed(1, '.'), 2);
    due("P7 formula", x.formula(), 0);
    same("P7 its texts", Due.texts(x, 0), "a");
    due("P7 the tape is empty", x.count(6), 0);
    due("P7 negative number", x.feed(8, -1L), 8);
    due("P7 byte 255 can't stand", x.formula(), -20);
    due("P7 the lowest first", x.feed(4, 'c' | 'd' << 8 | 'e' << 16 | '.' << 24), 4);
    due("P7 formula", x.formula(), 1);
    same("P7 order", Due.texts(x, 1), "cde");
    for (int i = 1; i <= 24; i++) {
      due("P7 eight more", x.feed(8, 0x2020202020202020L), 8 * i);
    }
    due("P7 199", x.feed(7, 0x20202020202020L), 199);
    due("P7 two above", x.feed(2, 0x2020L), FULL);
    due("P7 a bad one above", x.feed(9, 0), BAD);
    due("P7 still", x.count(6), 199);
    due("P7 the last", x.feed(1, 32), 200);
    due("P7 one above", x.feed(1, 32), FULL);
    due("P8 blanks alone end too early", x.formula(), -220);
    due("P8 empty then", x.count(6), 0);
  }

  private static void made(String formula, String texts) {
    InscribedStones x = new InscribedStones();
    due("P8 " + formula, Due.formula(x, formula), 0);
    due("P8 count of " + formula, x.count(2), 1);
    same("P10 texts of " + formula, Due.texts(x, 0), texts);
    due("P9 how many of " + formula, x.texts(0), texts.split(",", -1).length);
  }

  private static void textsOfFormulas() {
    made("a.", "a");
    made(" a .", "a");
    made("\na\n.\n ", "a");
    made("abcdefgh.", "abcdefgh");
    made("a b.", "a_b");
    made("ab c d.", "ab_c_d");
    made("a|b.", "a,b");
    made("a|a.", "a");
    made("(a).", "a");
    made("((((a)))).", "a");
    made("[a].", ",a");
    made("[a][b].", ",a,a_b,b");
    made("a [b] c.", "a_b_c,a_c");
    made("[a] b [c].", "a_b,a_b_c,b,b_c");
    made("(a|b)(c|d).", "a_c,a_d,b_c,b_d");
    made("a(b|c)|d.", "a_b,a_c,d");
    made("a|b c.", "a,b_c");
    made("[a|b]c.", "a_c,b_c,c");
    made("[[a]].", ",a");
    made("[[a]b].", ",a_b,b");
    made("(a|b c)(d|c d).", "a_c_d,a_d,b_c_c_d,b_c_d");
    made("(a|a b)(c|b c).", "a_b_b_c,a_b_c,a_c");
    made("[a][a][a].", ",a,a_a,a_a_a");
    made("(a)(b).", "a_b");
    made("abcdefgh abcdefgh abcdef.", "abcdefgh_abcdefgh_abcdef");
    made("abcdef abcde xyz.", "abcdef_abcde_xyz");
    made("abcdefgh abc xyz.", "abcdefgh_abc_xyz");
    made("abcdefgh ab xyz.", "abcdefgh_ab_xyz");
    made("a (b [c] d e f g h i j k).", "a_b_c_d_e_f_g_h_i_j_k,a_b_d_e_f_g_h_i_j_k");
    made("(a b)(c d e f g h i j k).", "a_b_c_d_e_f_g_h_i_j_k");
    made("(abcde)(fghij klm nopqrstu).", "abcde_fghij_klm_nopqrstu");
    made("(abcdefgh ij)(abcdefgh klb).", "abcdefgh_ij_abcdefgh_klb");
    made("(abcdefgh ij)(abcdefgh kla).", "abcdefgh_ij_abcdefgh_kla");
    made("(abcdefgh ijk)(lmnopqrs tu).", "abcdefgh_ijk_lmnopqrs_tu");
  }

  private static void orderOfTexts() {
    made("b|a|ab|a b|aa|a a.", "a,a_a,a_b,aa,ab,b");
    made("z|y [x]|[a].", ",a,y,y_x,z");
    made("abcdefgh ijk m|abcdefgh ijk l|abcdefgh ijk|abcdefgh ij z.",
        "abcdefgh_ij_z,abcdefgh_ijk,abcdefgh_ijk_l,abcdefgh_ijk_m");
    made("abcdefgh ijkl b|abcdefgh ijkl a|abcdefgh ijkl.",
        "abcdefgh_ijkl,abcdefgh_ijkl_a,abcdefgh_ijkl_b");
  }

  private static void faulty(String formula, int place) {
    InscribedStones x = new InscribedStones();
    due("P8 fault of " + formula, Due.formula(x, formula), -20 - place);
    due("P8 no formula", x.count(2), 0);
    due("P8 the tape is empty", x.count(6), 0);
  }

  private static void faults() {
    faulty("", 0);
    faulty(".", 0);
    faulty("a", 1);
    faulty("a ", 2);
    faulty("  .", 2);
    faulty("a..", 2);
    faulty("a.b", 2);
    faulty("a. (", 3);
    faulty("a. \nabcdefghi", 4);
    faulty("|a.", 0);
    faulty("a|", 2);
    faulty("a|.", 2);
    faulty("a||b.", 2);
    faulty("()", 1);
    faulty("[ ]", 2);
    faulty("(a", 2);
    faulty("(a.", 2);
    faulty("(a].", 2);
    faulty("[a).", 2);
    faulty("a).", 1);
    faulty("a].", 1);
    faulty("([a)].", 3);
    faulty("(a|).", 3);
    faulty("(|a).", 1);
    faulty("((((a))))", 9);
    faulty("((((  (", 6);
    faulty("[([(a[b])])].", 5);
    faulty("abcdefghi.", 0);
    faulty("a abcdefghi.", 2);
    faulty("(abcdefghi", 1);
    faulty("A.", 0);
    faulty("a{", 1);
    faulty("a`.", 1);
    faulty("a\t.", 1);
    faulty("a\r.", 1);
    faulty("a\u0000.", 1);
    faulty("a\u00ff.", 1);
    faulty("a,b.", 1);
    // A fault is told though what stands ahead of it is spent.
    faulty("abcdefgh abcdefgh abcdefgh)", 26);
    faulty("(a|b)(a|b)(a|b)(a|b)(a|b)(a|b)(a|b)(a|b)", 40);
  }

  private static void spentBy(String formula, boolean spent) {
    InscribedStones x = new InscribedStones();
    due("P8 " + formula, Due.formula(x, formula), spent ? STATE : 0);
    due("P8 kept or not", x.count(2), spent ? 0 : 1);
    due("P8 the tape is empty", x.count(6), 0);
  }

  private static void spent() {
    spentBy("abcdefgh abcdefgh abcdef.", false);
    spentBy("abcdefgh abcdefgh abcdefg.", true);
    spentBy("a|abcdefgh abcdefgh [abcdefg].", true);
    spentBy("[a][a][a][a][a][a][a][a][a][a][a][a].", false);
    spentBy("[a][a][a][a][a][a][a][a][a][a][a][a][a].", true);
    String seven = "(a|b)(a|b)(a|b)(a|b)(a|b)(a|b)(a|b)";
    spentBy(seven + ".", false);
    spentBy(seven + "(a|b).", true);
    // 128 and 72: an all of 200, and the same with one more.
    String rows72 = "(a|b)(a|b)(a|b)(a|b|c|d|e|f|g|h|i)";
    spentBy(seven + "|" + rows72 + ".", false);
    spentBy(seven + "|" + rows72 + "|z.", true);
    spentBy(seven + "|" + rows72 + "|a a a a.", false);
    spentBy("[" + seven + "|" + rows72 + "].", true);
    spentBy("(" + seven + "|" + rows72 + ").", false);
    spentBy("[" + seven + "|(a|b)(a|b)(a|b)(a|b|c|d|e|f|g|h)|m|n|o|p|q|r|s].", false);
    spentBy("[" + seven + "|(a|b)(a|b)(a|b)(a|b|c|d|e|f|g|h)|m|n|o|p|q|r|s|t].", true);
    // 15 by 14 are 210, though what would follow could make them no fewer; 20 by 10 are 200.
    String ten = "(a|b|c|d|e|f|g|h|i|j)";
    String twenty = "(a|b|c|d|e|f|g|h|i|j|k|l|m|n|o|p|q|r|s|t)";
    spentBy(twenty + ten + ".", false);
    spentBy(ten + twenty + "z.", false);
    spentBy("(a|b|c|d|e|f|g|h|i|j|k|l|m|n|o)(a|b|c|d|e|f|g|h|i|j|k|l|m|n).", true);
    InscribedStones x = new InscribedStones();
    due("P8 spent", Due.formula(x, twenty + "[" + ten + "]."), STATE);
    due("P8 and a fault", Due.formula(x, "((a"), -23);
    Due.formula(x, twenty + ten + ".");
    due("P9 200 texts", x.texts(0), 200);
    same("P10 the 200th", Due.text(x, 0, 199), "t_j");
    same("P10 the 12th", Due.text(x, 0, 11), "b_b");
  }

  private static void fullOfFormulas() {
    InscribedStones x = new InscribedStones();
    for (int i = 0; i < 8; i++) {
      due("P8 formula", Due.formula(x, (char) ('a' + i) + "."), i);
    }
    Due.feed(x, "z.");
    due("P8 a ninth", x.formula(), FULL);
    due("P8 the tape stays", x.count(6), 2);
    due("P8 again", x.formula(), FULL);
    Due.feed(x, ")(");
    due("P8 full ahead of a fault", x.formula(), FULL);
    due("P8 it stays too", x.count(6), 4);
    due("P8 eight", x.count(2), 8);
    for (int i = 0; i < 8; i++) {
      same("P10 each keeps its texts", Due.texts(x, i), "" + (char) ('a' + i));
    }
  }

  private static void textsThatAreNone() {
    InscribedStones x = new InscribedStones();
    Due.formula(x, "[ab]|abcdefgh abcdefgh zzzzzz.");
    due("P9 three", x.texts(0), 3);
    due("P9 formula 1", x.texts(1), BAD);
    due("P9 formula -1", x.texts(-1), BAD);
    due("P10 the empty one", x.text(0, 0, 0), NONE);
    due("P10 a", x.text(0, 1, 0), 0);
    due("P10 b", x.text(0, 1, 1), 1);
    due("P10 behind", x.text(0, 1, 2), NONE);
    due("P10 the blank", x.text(0, 2, 8), 26);
    due("P10 the 12th letter", x.text(0, 2, 11), 2);
    due("P10 the 13th letter", x.text(0, 2, 12), 3);
    due("P10 the 24th letter", x.text(0, 2, 23), 25);
    due("P10 the 25th letter", x.text(0, 2, 24), NONE);
    due("P10 k -1", x.text(0, 1, -1), NONE);
    due("P10 k wide", x.text(0, 1, Integer.MAX_VALUE), NONE);
    due("P10 i 3", x.text(0, 3, 0), NONE);
    due("P10 i 3, k 11", x.text(0, 3, 11), NONE);
    due("P10 i 3, k 23", x.text(0, 3, 23), NONE);
    due("P10 i -1", x.text(0, -1, 0), NONE);
    due("P10 i wide", x.text(0, Integer.MAX_VALUE, 0), NONE);
    due("P10 i least", x.text(0, Integer.MIN_VALUE, 0), NONE);
    due("P10 formula 1", x.text(1, 0, 0), BAD);
    due("P10 formula -1", x.text(-1, 0, 0), BAD);
    due("P10 formula 8", x.text(8, 0, 0), BAD);
  }

  private static void waysOfLines() {
    InscribedStones x = new InscribedStones();
    x.stone(2, 4);
    x.hand(0);
    Due.formula(x, "[a]|ab|abcd|abcde|a b.");
    due("P11 all that are short enough", x.ways(0, 0, 0), 5);
    due("P12 the empty one", x.way(0, 0, 0, 0), 0);
    due("P12 a", x.way(0, 0, 0, 1), 1);
    due("P12 the last", x.way(0, 0, 0, 4), 4);
    due("P12 behind", x.way(0, 0, 0, 5), NONE);
    due("P12 i -1", x.way(0, 0, 0, -1), NONE);
    due("P12 i wide", x.way(0, 0, 0, Integer.MAX_VALUE), NONE);
    x.read(0, 0, 1, 1, 0, 1);
    due("P11 the second letter is b", x.ways(0, 1, 0), 2);
    due("P12 ab", x.way(0, 1, 0, 0), 3);
    due("P12 abcd", x.way(0, 1, 0, 1), 4);
    due("P12 no more", x.way(0, 1, 0, 2), NONE);
    due("P11 the other line", x.ways(0, 0, 0), 5);
    due("P12 of this line again", x.way(0, 1, 0, 0), 3);
    due("P12 of the other line", x.way(0, 0, 0, 0), 0);
    x.read(0, 0, 1, 3, 1, 26);
    due("P11 a blank behind", x.ways(0, 1, 0), 1);
    due("P12 ab still", x.way(0, 1, 0, 0), 3);
    x.read(0, 0, 1, 3, 0, 25);
    due("P11 none", x.ways(0, 1, 0), 0);
    due("P12 none", x.way(0, 1, 0, 0), NONE);
    due("P11 no stone", x.ways(1, 0, 0), BAD);
    due("P11 stone -1", x.ways(-1, 0, 0), BAD);
    due("P11 no line", x.ways(0, 2, 0), BAD);
    due("P11 line -1", x.ways(0, -1, 0), BAD);
    due("P11 no formula", x.ways(0, 0, 1), BAD);
    due("P11 formula -1", x.ways(0, 0, -1), BAD);
    due("P12 no stone", x.way(1, 0, 0, 0), BAD);
    due("P12 no line", x.way(0, 2, 0, 0), BAD);
    due("P12 no formula", x.way(0, 0, 1, 0), BAD);
    due("P12 formula -1", x.way(0, 0, -1, 0), BAD);
  }

  private static void waysByHalves() {
    InscribedStones x = new InscribedStones();
    x.stone(1, 3);
    x.hand(0);
    x.hand(5);
    Due.formula(x, "(a|b|c)[d].");
    due("P11 all", x.ways(0, 0, 0), 6);
    x.read(0, 0, 0, 0, 2, 5);
    due("P11 a or c", x.ways(0, 0, 0), 4);
    due("P12 c", x.way(0, 0, 0, 2), 4);
    x.read(0, 0, 0, 2, 2, 1 << 26 | 1 << 4);
    due("P11 a blank or e", x.ways(0, 0, 0), 2);
    x.read(0, 0, 0, 1, 4, 0);
    due("P11 erased lets any", x.ways(0, 0, 0), 2);
    x.read(1, 0, 0, 0, 5, 1);
    due("P11 the reading by rank", x.ways(0, 0, 0), 1);
    due("P12 b", x.way(0, 0, 0, 0), 2);
    x.forget(1, 0, 0, 0);
    due("P11 and without it", x.ways(0, 0, 0), 2);
  }

  private static void longestLines() {
    InscribedStones x = new InscribedStones();
    x.stone(4, 24);
    x.stone(1, 23);
    x.stone(1, 1);
    x.hand(0);
    Due.formula(x, "abcdefgh ijklmnop [qrstuv].");
    due("P11 24 places", x.ways(0, 3, 0), 2);
    due("P11 23 places", x.ways(1, 0, 0), 1);
    due("P11 1 place", x.ways(2, 0, 0), 0);
    x.read(0, 0, 3, 23, 0, 21);
    due("P11 the last place", x.ways(0, 3, 0), 1);
    due("P12 the long one", x.way(0, 3, 0, 0), 1);
    x.read(0, 0, 3, 23, 0, 20);
    due("P11 another last place", x.ways(0, 3, 0), 0);
    Due.formula(x, "[ab].");
    due("P11 the empty one at one place", x.ways(2, 0, 1), 1);
    x.read(0, 2, 0, 0, 0, 0);
    due("P11 ab is too long", x.ways(2, 0, 1), 0);
    due("P11 other places of no matter", x.ways(1, 0, 1), 2);
  }

  private static void carriedPlaces() {
    InscribedStones x = new InscribedStones();
    x.stone(1, 5);
    x.hand(0);
    Due.formula(x, "abc|adc|zbcd.");
    Due.formula(x, "q.");
    due("P13 not the first", x.carried(0, 0, 0, 0), NONE);
    due("P13 not the second", x.carried(0, 0, 1, 0), NONE);
    due("P13 the third", x.carried(0, 0, 2, 0), 2);
    due("P13 not the fourth", x.carried(0, 0, 3, 0), NONE);
    due("P13 the blank", x.carried(0, 0, 4, 0), 26);
    x.read(0, 0, 0, 0, 0, 0);
    due("P13 a sign too", x.carried(0, 0, 0, 0), 0);
    due("P13 b or d", x.carried(0, 0, 1, 0), NONE);
    due("P13 now the fourth", x.carried(0, 0, 3, 0), 26);
    x.read(0, 0, 0, 1, 2, 1 << 3 | 1 << 4);
    due("P13 d alone", x.carried(0, 0, 1, 0), 3);
    due("P13 no ways", x.carried(0, 0, 2, 1), NONE);
    x.stone(2, 5);
    due("P11 of another line", x.ways(1, 1, 0), 3);
    due("P13 of the first line still", x.carried(0, 0, 1, 0), 3);
    due("P13 of another line", x.carried(1, 0, 1, 0), NONE);
    due("P13 no formula", x.carried(0, 0, 0, 2), BAD);
    due("P13 formula -1", x.carried(0, 0, 0, -1), BAD);
    due("P13 no stone", x.carried(2, 0, 0, 0), BAD);
    due("P13 no line", x.carried(0, 1, 0, 0), BAD);
    due("P13 no place", x.carried(0, 0, 5, 0), BAD);
    due("P13 place -1", x.carried(0, 0, -1, 0), BAD);
  }

  private static void fitting() {
    InscribedStones x = new InscribedStones();
    x.stone(2, 3);
    x.hand(0);
    due("P14 no formulas", x.fits(0, 0), NONE);
    Due.formula(x, "abcd.");
    due("P14 too long", x.fits(0, 0), NONE);
    Due.formula(x, "abc.");
    Due.formula(x, "[a]b.");
    due("P14 the first", x.fits(0, 0), 1);
    x.read(0, 0, 1, 1, 0, 26);
    due("P14 the next", x.fits(0, 1), 2);
    x.read(0, 0, 1, 0, 0, 6);
    due("P14 none", x.fits(0, 1), NONE);
    due("P14 no stone", x.fits(1, 0), BAD);
    due("P14 no line", x.fits(0, 2), BAD);
    due("P14 line -1", x.fits(0, -1), BAD);
  }
}
