/** The boundaries of SPENT, of TEXTS and WAYS, and of promises 8 to 14, each by its sentence. */
public final class TextsLimitsTest extends Asking {
  private static final String TEN = "(" + letters('a', 10, "|") + ")";
  private static final String TWENTY = "(" + letters('a', 20, "|") + ")";
  private static final String LONG = "abcdefgh abcdefgh abcdef";

  public static void main(String[] args) {
    pieceOf200Texts();
    rowOf200Texts();
    allOf200Texts();
    textsOf24Letters();
    spentWithinBrackets();
    spentTakesNoNumber();
    faultAheadOfSpent();
    fullAheadOfAll();
    eightFormulas();
    blanksBetweenTextsThatAreNotEmpty();
    alikeOnesAreOne();
    alikeHoweverTheyAreMade();
    textArguments();
    everyPlaceOfTheLongest();
    waysArguments();
    textsAsLongAsTheLine();
    twoHundredWays();
    wayArguments();
    carriedArguments();
    carriedByAllOfThem();
    fitsArguments();
    Due.end();
  }

  private static void spent(String formula, boolean spent) {
    InscribedStones x = new InscribedStones();
    due("P8 " + formula, Due.formula(x, formula), spent ? STATE : 0);
    due("P8 kept or not", x.count(2), spent ? 0 : 1);
    due("P8 the tape is empty then", x.count(6), 0);
  }

  private static void makes(String formula, int texts) {
    InscribedStones x = new InscribedStones();
    due("P8 " + formula, Due.formula(x, formula), 0);
    due("P9 texts of " + formula, x.texts(0), texts);
    due("P10 the last one is there", Due.text(x, 0, texts - 1).isEmpty() ? 0 : 1, 1);
    due("P10 none behind it", x.text(0, texts, 0), NONE);
  }

  // "if a PIECE .. has more than 200 TEXTS"
  private static void pieceOf200Texts() {
    makes("(" + TWENTY + TEN + ").", 200);
    spent("[" + TWENTY + TEN + "].", true);
    // 20 by 9, and 19 alone: 199, and the empty one.
    String nine = "(" + letters('a', 9, "|") + ")";
    String few = TWENTY + nine + "|" + letters('a', 18, "|");
    makes("[" + few + "|x].", 200);
    spent("[" + few + "|x|y].", true);
    makes("(" + few + "|x|y).", 200);
    spent("[(" + few + "|x|y)].", true);
    makes("[[" + few + "|x]].", 200);
  }

  // "what a ROW makes up to one of its PIECES .. has more than 200 TEXTS (alike ones are one)"
  private static void rowOf200Texts() {
    makes(TWENTY + TEN + ".", 200);
    makes(TWENTY + TEN + "a b.", 200);
    spent(TWENTY + TEN + "(a|b).", true);
    spent(TWENTY + "(" + letters('a', 11, "|") + ").", true);
    // The empty one, as many alone as either has, and 10 by 18.
    makes("[" + letters('a', 10, "|") + "][" + letters('b', 18, "|") + "].", 200);
    spent("[" + letters('a', 10, "|") + "][" + letters('c', 18, "|") + "].", true);
    spent("z|[" + letters('a', 10, "|") + "][" + letters('c', 18, "|") + "]z.", true);
  }

  // "or what an ALL makes up to one of its ROWS, has more than 200 TEXTS (alike ones are one)"
  private static void allOf200Texts() {
    String most = TWENTY + "(" + letters('a', 9, "|") + ")|" + letters('a', 20, "|");
    makes(most + ".", 200);
    makes(most + "|a|b|a b|t i.", 200);
    spent(most + "|z.", true);
    spent(most + "|z|a.", true);
    spent("z|" + most + ".", true);
    spent("(" + most + "|z).", true);
    spent(TWENTY + TEN + "|z.", true);
    makes(TWENTY + TEN + "|" + TWENTY + TEN + ".", 200);
  }

  // "or a TEXT longer than 24"
  private static void textsOf24Letters() {
    spent(LONG + ".", false);
    spent(LONG + "g.", true);
    spent(LONG + " [g].", true);
    spent("abcdefgh abcdefgh abcde f.", true);
    spent("abcdefgh abcdefgh abcd f.", false);
    spent("abcdefgh abcdefgh abcdefgh.", true);
    spent("a|" + LONG + "g.", true);
    spent(LONG + "g|a.", true);
    spent("a|" + LONG + ".", false);
    // Twelve words of one letter are 23 letters long, thirteen are 25.
    spent(letters('a', 12, " ") + ".", false);
    spent(letters('a', 11, " ") + " lm.", false);
    spent(letters('a', 13, " ") + ".", true);
  }

  private static void spentWithinBrackets() {
    spent("[" + LONG + "].", false);
    spent("[" + LONG + "g].", true);
    spent("(" + LONG + "g).", true);
    spent("[a|[[b (" + LONG + "g)]]].", true);
    spent("(" + LONG + ")a.", true);
    spent("a(" + LONG + ").", true);
    spent("[" + LONG + "][a].", true);
    spent("(abcdefgh abcd)(abcdefgh abcd).", true);
    spent("(abcdefgh abcd)(abcdefgh ab).", true);
    spent("(abcdefgh abcd)(abcdefgh a).", false);
    spent("(abcdefgh abcd)(a|abcdefgh a[c]).", true);
  }

  // "STATE: it is SPENT." "THE TAPE, which is empty then".
  private static void spentTakesNoNumber() {
    InscribedStones x = new InscribedStones();
    due("P8 spent", Due.formula(x, LONG + "g."), STATE);
    due("P8 a fault", Due.formula(x, "("), -21);
    due("P9 none is there", x.texts(0), BAD);
    due("P8 the first number", Due.formula(x, "a|b."), 0);
    due("P8 spent again", Due.formula(x, TWENTY + TWENTY + "."), STATE);
    due("P8 the second", Due.formula(x, "c."), 1);
    same("P10 of the first", Due.texts(x, 0), "a,b");
    same("P10 of the second", Due.texts(x, 1), "c");
  }

  // "Without a FAULT it may be SPENT."
  private static void faultAheadOfSpent() {
    String[] bad = {LONG + "g", LONG + "g)", LONG + "g..", TWENTY + TWENTY + "|", "(" + LONG + "g|A"};
    int[] places = {25, 25, 26, 83, 27};
    for (int i = 0; i < bad.length; i++) {
      due("P8 " + bad[i], Due.formula(new InscribedStones(), bad[i]), -20 - places[i]);
    }
  }

  // "FULL (looked at first): no FORMULA more has room (THE TAPE stays)."
  private static void fullAheadOfAll() {
    String[] tapes = {"", "z.", "(", "abcdefghi.", LONG + "g."};
    for (String tape : tapes) {
      InscribedStones x = new InscribedStones();
      for (int i = 0; i < 8; i++) {
        Due.formula(x, "a.");
      }
      Due.feed(x, tape);
      due("P8 full with " + tape, x.formula(), FULL);
      due("P8 the tape stays", x.count(6), tape.length());
      due("P8 eight", x.count(2), 8);
    }
    InscribedStones x = made(1, 1, 3, 1);
    for (int i = 0; i < 8; i++) {
      Due.formula(x, "a.");
    }
    Due.feed(x, "abc");
    due("P8 full", x.formula(), FULL);
    due("P34 the tape as it was", x.back(0, 0, 0), 3);
    due("P34 its last letter", x.sign(0, 0, 2, 1), 4);
  }

  // "FORMULAS (8) .. are numbered from 0 as they come."
  private static void eightFormulas() {
    InscribedStones x = made(1, 1, 2, 0);
    for (int i = 0; i < 8; i++) {
      due("P9 not there yet", x.texts(i), BAD);
      due("P11 not there yet", x.ways(0, 0, i), BAD);
      due("P32 not there yet", x.print(0, 0, i), BAD);
      due("P8 the next number", Due.formula(x, letters('a', i + 1, "|") + "."), i);
      due("P9 there now", x.texts(i), i + 1);
      due("P11 there now", x.ways(0, 0, i), i + 1);
    }
    Due.feed(x, "a.");
    due("P8 the ninth", x.formula(), FULL);
    due("P9 the ninth is not there", x.texts(8), BAD);
    refused("P9 formula", f -> x.texts(f), 0, 7, BAD);
  }

  private static void textsAre(String formula, String texts) {
    InscribedStones x = new InscribedStones();
    due("P8 " + formula, Due.formula(x, formula), 0);
    same("P10 texts of " + formula, Due.texts(x, 0), texts);
    due("P9 how many of " + formula, x.texts(0), texts.split(",", -1).length);
  }

  // "a blank between each two that are not empty"
  private static void blanksBetweenTextsThatAreNotEmpty() {
    textsAre("[a][b].", ",a,a_b,b");
    textsAre("a[b].", "a,a_b");
    textsAre("[a]b.", "a_b,b");
    textsAre("a[b]c.", "a_b_c,a_c");
    textsAre("[[[[a]]]].", ",a");
    textsAre("[a][a].", ",a,a_a");
    textsAre("ab(c).", "ab_c");
    textsAre("([a][b])c.", "a_b_c,a_c,b_c,c");
    textsAre("c([a][b]).", "c,c_a,c_a_b,c_b");
  }

  // "TEXTS that are alike are one."
  private static void alikeOnesAreOne() {
    textsAre("a|a.", "a");
    textsAre("a b|a(b)|(a)[b]|a|(a b).", "a,a_b");
    textsAre("(a|a b)(b c|c).", "a_b_b_c,a_b_c,a_c");
    textsAre("[a]|[b].", ",a,b");
    textsAre("ab|a b.", "a_b,ab");
    textsAre("(a b c|a b)(d|c d).", "a_b_c_c_d,a_b_c_d,a_b_d");
    // Alike up to the last letter, on both sides of the middle of a text.
    textsAre("abcdefgh abc|abcdefgh abd|abcdefgh ab.", "abcdefgh_ab,abcdefgh_abc,abcdefgh_abd");
    textsAre("abcdefgh abcd|abcdefgh abce.", "abcdefgh_abcd,abcdefgh_abce");
    textsAre(LONG + "|abcdefgh abcdefgh abcdeg.", LONG.replace(' ', '_') + ",abcdefgh_abcdefgh_abcdeg");
  }

  /** Texts of some words, cut into two pieces behind each word, so that all rows make one text. */
  private static void alikeByCuts(String text) {
    String[] words = text.split(" ");
    for (int by = 1; by <= 2; by++) {
      StringBuilder rows = new StringBuilder();
      for (int cut = by; cut < words.length; cut += 2) {
        String head = String.join(" ", java.util.Arrays.copyOf(words, cut));
        String tail = String.join(" ", java.util.Arrays.copyOfRange(words, cut, words.length));
        rows.append("(" + head + ")(" + tail + ")|(" + head + ")" + tail + "|");
      }
      textsAre(rows + text + ".", text.replace(' ', '_'));
    }
  }

  private static void alikeHoweverTheyAreMade() {
    alikeByCuts("zyxw zyxw zyxw zyxw zyxw");
    alikeByCuts("abcdefgh yz x z opqrstuv");
    alikeByCuts("z zz zzzzz zz zzzzzz zzz");
    alikeByCuts("zzzzzz zzzzz zzzz zzzzzz");
    alikeByCuts("zzzzzzzz zzzz zzzzzzzz z");
    alikeByCuts("zz zzzzzzzz zzzzz zzzzzz");
    // In the order of letters, made in one piece or in two.
    textsAre("(zz zz)(zz zz za)|zz zz zz zz z|(zz)(zz zz zz zb).",
        "zz_zz_zz_zz_z,zz_zz_zz_zz_za,zz_zz_zz_zz_zb");
    textsAre("(zzzz zzzz)(zzzz zb)|(zzzz)(zzzz zzzz za)|zzzz zzzz zzzz zc.",
        "zzzz_zzzz_zzzz_za,zzzz_zzzz_zzzz_zb,zzzz_zzzz_zzzz_zc");
    textsAre("(zzzz zzzz)(zaaa b)|(zzzz)(zzzz yzzz z)|zzzz zzzz zaaa a.",
        "zzzz_zzzz_yzzz_z,zzzz_zzzz_zaaa_a,zzzz_zzzz_zaaa_b");
  }

  // "NONE: none such. BAD: no such FORMULA."
  private static void textArguments() {
    InscribedStones x = new InscribedStones();
    Due.formula(x, "[a]|bc|bcd.");
    Due.formula(x, "z.");
    refused("P10 formula", n -> x.text(n, 0, 0), 0, 1, BAD);
    refused("P10 formula, though none such", n -> x.text(n, -1, 99), 0, 1, BAD);
    refused("P10 i", n -> x.text(0, n, 0), 0, 3, NONE);
    refused("P10 i, within its places", n -> x.text(1, n, 0), 0, 0, NONE);
    refused("P10 k", n -> x.text(0, 3, n), 0, 2, NONE);
    refused("P10 k of another text", n -> x.text(0, 2, n), 0, 1, NONE);
    refused("P10 k of the empty text", n -> x.text(0, 0, n), 0, -1, NONE);
    due("P10 first i, first k", x.text(0, 1, 0), 0);
    due("P10 last i, first k", x.text(0, 3, 0), 1);
    due("P10 last i, last k", x.text(0, 3, 2), 3);
    due("P10 z", x.text(1, 0, 0), 25);
    due("P10 the 13th place of a short one", x.text(0, 3, 12), NONE);
  }

  private static void everyPlaceOfTheLongest() {
    String texts = "abcdefgh ijklmnop qrstuv|zyxwvuts r p o n m lkjih.";
    InscribedStones x = new InscribedStones();
    due("P8 two", Due.formula(x, texts), 0);
    same("P10 the first", Due.text(x, 0, 0), "abcdefgh_ijklmnop_qrstuv");
    same("P10 the second", Due.text(x, 0, 1), "zyxwvuts_r_p_o_n_m_lkjih");
    for (int k = 0; k < 24; k++) {
      int letter = "abcdefgh ijklmnop qrstuv".charAt(k);
      due("P10 place " + k, x.text(0, 0, k), letter == ' ' ? 26 : letter - 'a');
    }
    due("P10 place 24", x.text(0, 0, 24), NONE);
    due("P8 a third formula", Due.formula(x, "zzzzzzzz zzzzzzzz zzzzzz."), 1);
    for (int k = 24; k < 100; k++) {
      due("P10 place " + k + " of z", x.text(1, 0, k), NONE);
      due("P10 place " + -k + " of z", x.text(1, 0, -k), NONE);
    }
    due("P10 place -1", x.text(0, 1, -1), NONE);
  }

  // "How many WAYS a LINE has by a FORMULA. BAD."
  private static void waysArguments() {
    InscribedStones x = made(2, 3, 4, 1);
    Due.formula(x, "a.");
    Due.formula(x, "b.");
    range("P11 stone", n -> x.ways(n, 0, 0), 0, 1, 1);
    range("P11 line", n -> x.ways(0, n, 0), 0, 2, 1);
    range("P11 formula", n -> x.ways(0, 0, n), 0, 1, 1);
    due("P11 formula none", x.ways(0, 0, NONE), BAD);
  }

  /** A text of so many letters. */
  private static String textOf(int letters) {
    String text = LONG.substring(0, letters);
    return text.endsWith(" ") ? text.substring(0, letters - 2) + " z" : text;
  }

  // "(a TEXT that is longer than the LINE is none)" "with blanks behind up to the LINE's PLACES"
  private static void textsAsLongAsTheLine() {
    for (int n = 1; n <= 24; n++) {
      InscribedStones x = made(1, 1, n, 1);
      due("P8 of " + n + " letters", Due.formula(x, textOf(n) + "."), 0);
      due("P11 as long as the line of " + n, x.ways(0, 0, 0), 1);
      due("P13 its last place", x.carried(0, 0, n - 1, 0), x.text(0, 0, n - 1));
      if (n < 24) {
        due("P8 of one more", Due.formula(x, textOf(n + 1) + "."), 1);
        due("P11 longer than the line", x.ways(0, 0, 1), 0);
      }
      if (n > 1) {
        due("P8 of one less", Due.formula(x, textOf(n - 1) + "."), n < 24 ? 2 : 1);
        int last = x.count(2) - 1;
        due("P11 shorter than the line", x.ways(0, 0, last), 1);
        due("P13 a blank behind", x.carried(0, 0, n - 1, last), 26);
        x.read(0, 0, 0, n - 1, 0, 0);
        due("P11 a letter behind", x.ways(0, 0, last), 0);
      }
    }
  }

  private static void twoHundredWays() {
    InscribedStones x = made(1, 1, 3, 1);
    due("P8 200", Due.formula(x, TWENTY + TEN + "."), 0);
    due("P11 all of them", x.ways(0, 0, 0), 200);
    due("P12 the first", x.way(0, 0, 0, 0), 0);
    due("P12 the last", x.way(0, 0, 0, 199), 199);
    due("P12 none behind", x.way(0, 0, 0, 200), NONE);
    x.read(0, 0, 0, 0, 0, 19);
    due("P11 ten of them", x.ways(0, 0, 0), 10);
    due("P12 the first", x.way(0, 0, 0, 0), 190);
    due("P12 the last", x.way(0, 0, 0, 9), 199);
    due("P12 none behind", x.way(0, 0, 0, 10), NONE);
  }

  // "Which TEXT its i-th WAY is. NONE: none such. BAD."
  private static void wayArguments() {
    InscribedStones x = made(2, 3, 4, 1);
    Due.formula(x, "a|b|abcde.");
    Due.formula(x, "abcdef.");
    range("P12 stone", n -> x.way(n, 0, 0, 1), 0, 1, 2);
    range("P12 line", n -> x.way(0, n, 0, 1), 0, 2, 2);
    refused("P12 formula", n -> x.way(0, 0, n, 0), 0, 1, BAD);
    refused("P12 i", n -> x.way(0, 0, 0, n), 0, 1, NONE);
    refused("P12 i of no ways", n -> x.way(0, 0, 1, n), 0, -1, NONE);
    due("P12 bad ahead of none", x.way(0, 3, 0, 9), BAD);
    due("P12 bad ahead of none", x.way(2, 0, 0, -1), BAD);
    due("P12 bad ahead of none", x.way(0, 0, 2, 9), BAD);
    due("P12 the first", x.way(0, 0, 0, 0), 0);
  }

  // "The letter by which a PLACE is CARRIED. NONE: it is not. BAD."
  private static void carriedArguments() {
    InscribedStones x = made(2, 3, 4, 1);
    Due.formula(x, "dddd.");
    Due.formula(x, "dddd|ddd.");
    range("P13 stone", n -> x.carried(n, 0, 0, 0), 0, 1, 3);
    range("P13 line", n -> x.carried(0, n, 0, 0), 0, 2, 3);
    range("P13 place", n -> x.carried(0, 0, n, 0), 0, 3, 3);
    range("P13 formula", n -> x.carried(0, 0, 0, n), 0, 1, 3);
    due("P13 formula none", x.carried(0, 0, 0, NONE), BAD);
    due("P13 d or the blank", x.carried(0, 0, 3, 1), NONE);
  }

  // "if the LINE has WAYS, and all of them have one letter there"
  private static void carriedByAllOfThem() {
    InscribedStones x = made(1, 1, 2, 1);
    Due.formula(x, "(a|b|c)|ad|bd|cd|abc.");
    Due.formula(x, "[zz].");
    due("P13 not by all", x.carried(0, 0, 0, 0), NONE);
    x.read(0, 0, 0, 1, 2, 1 << 3 | 1 << 25);
    due("P13 by all three", x.carried(0, 0, 1, 0), 3);
    due("P13 the first still not", x.carried(0, 0, 0, 0), NONE);
    x.read(0, 0, 0, 0, 0, 25);
    due("P13 no ways", x.carried(0, 0, 1, 0), NONE);
    due("P13 a sign alone carries nothing", x.carried(0, 0, 0, 0), NONE);
    due("P13 the one way", x.carried(0, 0, 0, 1), 25);
    x.forget(0, 0, 0, 0);
    x.forget(0, 0, 0, 1);
    due("P13 the first and the last differ", x.carried(0, 0, 0, 1), NONE);
    // What the first and the last way have alike, though one between has not.
    Due.formula(x, "ax|by|cx.");
    due("P13 not by the one between", x.carried(0, 0, 1, 2), NONE);
    Due.formula(x, "ax|by|cy.");
    due("P13 alike again, but not the first", x.carried(0, 0, 1, 3), NONE);
  }

  // "The first FORMULA by which a LINE has WAYS. NONE. BAD."
  private static void fitsArguments() {
    InscribedStones x = made(2, 3, 4, 1);
    range("P14 stone, no formulas", n -> x.fits(n, 0), 0, 1, NONE);
    for (int i = 0; i < 7; i++) {
      Due.formula(x, "abcde.");
    }
    due("P14 by none of seven", x.fits(0, 0), NONE);
    Due.formula(x, "[a]b.");
    range("P14 stone", n -> x.fits(n, 0), 0, 1, 7);
    range("P14 line", n -> x.fits(0, n), 0, 2, 7);
    x.read(0, 0, 0, 0, 0, 2);
    due("P14 by none of eight", x.fits(0, 0), NONE);
    InscribedStones y = made(1, 1, 1, 0);
    Due.formula(y, "a.");
    Due.formula(y, "a.");
    due("P14 the first of like ones", y.fits(0, 0), 0);
  }
}
