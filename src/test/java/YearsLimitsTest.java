/** The boundaries that 4 YEARS and promises 23 to 27 name, each by the sentence that names it. */
public final class YearsLimitsTest extends Asking {
  private static final int CLASHED = -100000;

  public static void main(String[] args) {
    yearArguments();
    leastAboveTheGreatest();
    yearsThatAreBadChangeNothing();
    boundArguments();
    everyPairOfStones();
    boundsTwentyAtMost();
    looseDownToNone();
    differencesOrAbove();
    spanArguments();
    spansAtTheEndsOfTime();
    oneYearTooFar();
    longestChains();
    ringsOfBounds();
    clashOfOneBound();
    clashFromTheLastToTheFirst();
    clashIsNeverZero();
    Due.end();
  }

  private static void spanOf(InscribedStones x, String what, int stone, int least, int most) {
    due(what + ", least of " + stone, x.span(stone, 0), least);
    due(what + ", greatest of " + stone, x.span(stone, 1), most);
  }

  // "a STONE is of one year -999 .. 999"
  private static void yearArguments() {
    range("P23 stone", n -> made(2, 1, 1, 0).years(n, 0, 0), 0, 1, 1);
    range("P23 the last of twelve", n -> made(12, 1, 1, 0).years(n, 0, 0), 0, 11, 1);
    range("P23 least", n -> made(1, 1, 1, 0).years(0, n, 999), -999, 999, 1);
    range("P23 greatest", n -> made(1, 1, 1, 0).years(0, -999, n), -999, 999, 1);
    range("P23 both", n -> made(1, 1, 1, 0).years(0, n, n), -999, 999, 1);
    for (int stone = 0; stone < 12; stone++) {
      spanOf(made(12, 1, 1, 0), "P26 at first", stone, -999, 999);
    }
  }

  // "BAD: also the least above the greatest."
  private static void leastAboveTheGreatest() {
    for (int year = -998; year <= 999; year += 499) {
      InscribedStones x = made(1, 1, 1, 0);
      due("P23 one year " + year, x.years(0, year, year), 1);
      due("P23 one above", x.years(0, year, year - 1), BAD);
      spanOf(x, "P23 it stands", 0, year, year);
    }
    due("P23 far above", made(1, 1, 1, 0).years(0, 999, -999), BAD);
    due("P23 as far as can be", made(1, 1, 1, 0).years(0, Integer.MAX_VALUE, Integer.MIN_VALUE), BAD);
    due("P23 all numbers", made(1, 1, 1, 0).years(0, Integer.MIN_VALUE, Integer.MAX_VALUE), BAD);
  }

  private static void yearsThatAreBadChangeNothing() {
    InscribedStones x = made(2, 1, 1, 0);
    x.years(0, -20, 30);
    int[][] bad = {{-1000, 5}, {5, 1000}, {6, 5}, {1000, 1000}, {-1000, -1000}, {-1000, 1000}};
    for (int[] b : bad) {
      due("P23 bad", x.years(0, b[0], b[1]), BAD);
      spanOf(x, "P23 as it was", 0, -20, 30);
      spanOf(x, "P23 as it was", 1, -999, 999);
    }
  }

  // "BOUNDS .. d (-200 .. 200)" "BAD: also a = b; FULL."
  private static void boundArguments() {
    range("P24 d", n -> made(2, 1, 1, 0).bound(0, 1, n), -200, 200, 1);
    refused("P24 a", n -> made(2, 1, 1, 0).bound(n, 0, 0), 0, 1, BAD);
    refused("P24 b", n -> made(2, 1, 1, 0).bound(0, n, 0), 0, 1, BAD);
    refused("P24 d, nothing kept", n -> {
      InscribedStones x = made(2, 1, 1, 0);
      x.bound(0, 1, n);
      return x.count(4);
    }, -200, 200, 0);
  }

  private static void everyPairOfStones() {
    for (int a = 0; a < 12; a++) {
      for (int b = 0; b < 12; b++) {
        InscribedStones x = made(12, 1, 1, 0);
        due("P24 " + a + " and " + b, x.bound(a, b, 7), a == b ? BAD : 1);
        for (int stone = 0; stone < 12; stone++) {
          int least = a != b && stone == b ? -992 : -999;
          int most = a != b && stone == a ? 992 : 999;
          spanOf(x, "P26 by " + a + " and " + b, stone, least, most);
        }
      }
    }
  }

  // "BOUNDS (20 at most)"
  private static void boundsTwentyAtMost() {
    InscribedStones x = made(3, 1, 1, 0);
    for (int i = 1; i <= 20; i++) {
      due("P24 how many there are", x.bound(0, 1, i), i);
      spanOf(x, "P26 by all of them", 1, i - 999, 999);
    }
    due("P24 the 21st", x.bound(0, 1, 100), FULL);
    due("P24 the 21st of others", x.bound(1, 2, 100), FULL);
    spanOf(x, "P26 not by the 21st", 1, -979, 999);
    spanOf(x, "P26 not by the 21st", 2, -999, 999);
    due("P35 twenty", x.count(4), 20);
    due("P24 bad ahead of full, a = b", x.bound(1, 1, 0), BAD);
    due("P24 bad ahead of full, d", x.bound(0, 1, 201), BAD);
    due("P24 bad ahead of full, d", x.bound(0, 1, -201), BAD);
    due("P24 bad ahead of full, a", x.bound(3, 1, 0), BAD);
    due("P24 bad ahead of full, b", x.bound(0, -1, 0), BAD);
    due("P25 one goes", x.loose(), 19);
    due("P24 one has room", x.bound(0, 1, 100), 20);
    spanOf(x, "P26 by that one", 1, -899, 999);
  }

  // "The BOUND that came last goes: how many there are. STATE: there is none."
  private static void looseDownToNone() {
    InscribedStones x = made(2, 1, 1, 0);
    due("P25 none at first", x.loose(), STATE);
    for (int i = 1; i <= 20; i++) {
      x.bound(0, 1, i * 10);
    }
    for (int left = 19; left >= 0; left--) {
      due("P25 how many there are", x.loose(), left);
      spanOf(x, "P26 by those that are left", 1, left == 0 ? -999 : left * 10 - 999, 999);
    }
    due("P25 none any more", x.loose(), STATE);
    due("P35 none", x.count(4), 0);
  }

  // "the year of b less that of a is d or above"
  private static void differencesOrAbove() {
    for (int d = -200; d <= 200; d += 50) {
      InscribedStones x = made(2, 1, 1, 0);
      x.bound(0, 1, d);
      x.years(0, 0, 0);
      spanOf(x, "P26 b of d " + d, 1, d, 999);
      x.years(0, -999, 999);
      x.years(1, 0, 0);
      spanOf(x, "P26 a of d " + d, 0, -999, -d);
      x.years(0, -d, -d);
      spanOf(x, "P26 just d", 1, 0, 0);
      x.years(0, 1 - d, 1 - d);
      spanOf(x, "P26 one less than d", 1, CLASHED, CLASHED);
      x.years(0, -1 - d, -1 - d);
      spanOf(x, "P26 one more than d", 1, 0, 0);
    }
  }

  // "what 0 the least, 1 the greatest year. -100000: they CLASH. BAD."
  private static void spanArguments() {
    refused("P26 stone", n -> made(2, 1, 1, 0).span(n, 0), 0, 1, BAD);
    refused("P26 what", n -> made(2, 1, 1, 0).span(0, n), 0, 1, BAD);
    InscribedStones x = made(2, 1, 1, 0);
    x.bound(0, 1, 1);
    x.bound(1, 0, 0);
    range("P26 stone while they clash", n -> x.span(n, 0), 0, 1, CLASHED);
    range("P26 what while they clash", n -> x.span(0, n), 0, 1, CLASHED);
  }

  private static void spansAtTheEndsOfTime() {
    InscribedStones x = made(2, 1, 1, 0);
    x.bound(0, 1, 200);
    spanOf(x, "P26 a up to the end", 0, -999, 799);
    spanOf(x, "P26 b from the beginning", 1, -799, 999);
    x.years(0, 799, 799);
    spanOf(x, "P26 the last year that b can have", 1, 999, 999);
    x.years(0, 800, 800);
    spanOf(x, "P26 none behind it", 1, CLASHED, CLASHED);
    x.years(0, -999, 999);
    x.years(1, -999, -799);
    spanOf(x, "P26 the first year", 0, -999, -999);
    x.years(1, -999, -800);
    spanOf(x, "P26 none ahead of it", 0, CLASHED, CLASHED);
  }

  // "THE SPAN: the least and the greatest year that it has in any choice of years that all keep."
  private static void oneYearTooFar() {
    InscribedStones x = made(4, 1, 1, 0);
    x.years(0, 10, 12);
    x.years(1, 10, 12);
    x.bound(0, 2, 5);
    x.bound(2, 1, -6);
    spanOf(x, "P26 between both", 2, 15, 18);
    x.bound(2, 3, 0);
    x.bound(3, 2, 0);
    spanOf(x, "P26 the same year", 3, 15, 18);
    x.years(3, 18, 30);
    spanOf(x, "P26 the last one alone", 2, 18, 18);
    spanOf(x, "P26 and so of 1", 1, 12, 12);
    spanOf(x, "P26 but not of 0", 0, 10, 12);
    x.years(3, 19, 30);
    for (int stone = 0; stone < 4; stone++) {
      spanOf(x, "P26 one year too far for all", stone, CLASHED, CLASHED);
    }
    due("P27 by two of them", x.clash(), 1 << 1 | 1 << 3);
  }

  private static void longestChains() {
    for (int way = 0; way < 2; way++) {
      InscribedStones x = made(12, 1, 1, 0);
      for (int i = 0; i < 11; i++) {
        int a = way == 0 ? i : 10 - i;
        x.bound(a, a + 1, 181);
      }
      // Eleven times 181 are 1991; from -999 to 999 there are 1998.
      for (int stone = 0; stone < 12; stone++) {
        spanOf(x, "P26 of twelve", stone, stone * 181 - 999, 999 - (11 - stone) * 181);
      }
      due("P27 none", x.clash(), NONE);
      x.years(0, -992, 999);
      spanOf(x, "P26 the last way", 11, 999, 999);
      x.years(0, -991, 999);
      spanOf(x, "P26 no way", 5, CLASHED, CLASHED);
      due("P27 all eleven", x.clash(), 2047);
      x.bound(0, 11, 5);
      due("P27 not that of both ends", x.clash(), 2047);
    }
  }

  private static void ringsOfBounds() {
    for (int n = 2; n <= 12; n++) {
      for (int first = 0; first < n; first++) {
        InscribedStones x = made(12, 1, 1, 0);
        for (int i = 0; i < n - 1; i++) {
          x.bound((first + i) % n, (first + i + 1) % n, 10);
        }
        x.bound((first + n - 1) % n, first, -10 * (n - 1));
        spanOf(x, "P26 a ring that just goes", first, -999, 999 - 10 * (n - 1));
        due("P27 none", x.clash(), NONE);
        x.loose();
        x.bound((first + n - 1) % n, first, 1 - 10 * (n - 1));
        spanOf(x, "P26 one year too much", first, CLASHED, CLASHED);
        due("P27 the whole ring of " + n, x.clash(), (1 << n) - 1);
      }
    }
  }

  // "the others (bits)"
  private static void clashOfOneBound() {
    for (int at = 0; at < 20; at++) {
      InscribedStones x = made(3, 1, 1, 0);
      x.years(0, 0, 0);
      x.years(1, 0, 0);
      for (int i = 0; i < 20; i++) {
        due("P24 how many", x.bound(i % 2, 1 - i % 2, i == at ? 1 : -5), i + 1);
      }
      due("P27 bit " + at, x.clash(), 1 << at);
      due("P35 all bounds stay", x.count(4), 20);
      x.years(0, -1, 1);
      due("P27 none", x.clash(), NONE);
    }
  }

  // "from the last to the first, each is left out if without it (and those left out before) they CLASH still"
  private static void clashFromTheLastToTheFirst() {
    for (int one = 0; one < 20; one++) {
      for (int other = one + 1; other < 20; other++) {
        InscribedStones x = made(3, 1, 1, 0);
        x.years(0, 0, 0);
        x.years(1, 0, 0);
        for (int i = 0; i < 20; i++) {
          x.bound(i % 2, 1 - i % 2, i == one || i == other ? 1 : -1);
        }
        due("P27 of " + one + " and " + other, x.clash(), 1 << one);
      }
    }
    InscribedStones x = made(4, 1, 1, 0);
    x.bound(2, 3, 1);
    x.bound(0, 1, 1);
    x.bound(1, 0, 0);
    x.bound(3, 2, 0);
    due("P27 the ring of the later ones that come first", x.clash(), 1 << 1 | 1 << 2);
    x.bound(0, 1, 2);
    due("P27 a later one changes nothing", x.clash(), 1 << 1 | 1 << 2);
  }

  // "0: years of a STONE alone can't clash; so it is never 0." "NONE: there is none."
  private static void clashIsNeverZero() {
    InscribedStones x = made(12, 1, 1, 0);
    for (int stone = 0; stone < 12; stone++) {
      x.years(stone, stone % 2 == 0 ? -999 : 999, stone % 2 == 0 ? -999 : 999);
    }
    due("P27 years alone", x.clash(), NONE);
    spanOf(x, "P26 years alone", 11, 999, 999);
    due("P27 no stones at all", new InscribedStones().clash(), NONE);
    x.bound(1, 0, 0);
    due("P27 one bound", x.clash(), 1);
    x.loose();
    due("P27 none any more", x.clash(), NONE);
  }
}
