/** Promises 23 to 27: years, bounds, spans and the clash. */
public final class YearsTest extends Asking {
  private static final int CLASHED = -100000;

  public static void main(String[] args) {
    tellingYears();
    tellingBounds();
    loosing();
    spans();
    chains();
    rings();
    clashes();
    clashesOfMany();
    Due.end();
  }

  private static InscribedStones stones(int n) {
    InscribedStones x = new InscribedStones();
    for (int i = 0; i < n; i++) {
      x.stone(1, 1);
    }
    return x;
  }

  private static void spanOf(InscribedStones x, String what, int stone, int least, int most) {
    due(what + " least of " + stone, x.span(stone, 0), least);
    due(what + " greatest of " + stone, x.span(stone, 1), most);
  }

  private static void tellingYears() {
    InscribedStones x = stones(2);
    spanOf(x, "P26 at first", 0, -999, 999);
    due("P23 some", x.years(0, -5, 7), 1);
    spanOf(x, "P23 some", 0, -5, 7);
    spanOf(x, "P23 the other", 1, -999, 999);
    due("P23 one year", x.years(0, 3, 3), 1);
    spanOf(x, "P23 one year", 0, 3, 3);
    due("P23 all", x.years(0, -999, 999), 1);
    spanOf(x, "P23 all", 0, -999, 999);
    due("P23 -1000", x.years(0, -1000, 0), BAD);
    due("P23 1000", x.years(0, 0, 1000), BAD);
    due("P23 least above the greatest", x.years(0, 1, 0), BAD);
    due("P23 both above", x.years(0, 1000, 1001), BAD);
    due("P23 both below", x.years(0, -1001, -1000), BAD);
    due("P23 no stone", x.years(2, 0, 1), BAD);
    due("P23 stone -1", x.years(-1, 0, 1), BAD);
    spanOf(x, "P23 nothing changed", 0, -999, 999);
    due("P26 what 2", x.span(0, 2), BAD);
    due("P26 what -1", x.span(0, -1), BAD);
    due("P26 no stone", x.span(2, 0), BAD);
    due("P26 stone -1", x.span(-1, 0), BAD);
  }

  private static void tellingBounds() {
    InscribedStones x = stones(3);
    due("P24 a = b", x.bound(1, 1, 0), BAD);
    due("P24 a = b, below", x.bound(1, 1, -5), BAD);
    due("P24 no stone", x.bound(0, 3, 0), BAD);
    due("P24 no stone", x.bound(3, 0, 0), BAD);
    due("P24 stone -1", x.bound(-1, 0, 0), BAD);
    due("P24 stone -1", x.bound(0, -1, 0), BAD);
    due("P24 d 201", x.bound(0, 1, 201), BAD);
    due("P24 d -201", x.bound(0, 1, -201), BAD);
    due("P35 none", x.count(4), 0);
    due("P24 d 200", x.bound(0, 1, 200), 1);
    due("P24 d -200", x.bound(1, 0, -200), 2);
    for (int i = 3; i <= 20; i++) {
      due("P24 more", x.bound(0, 1, 200), i);
    }
    due("P24 a 21st", x.bound(0, 1, 200), FULL);
    due("P24 a bad 21st", x.bound(0, 0, 200), BAD);
    due("P35 twenty", x.count(4), 20);
  }

  private static void loosing() {
    InscribedStones x = stones(2);
    due("P25 none", x.loose(), STATE);
    x.bound(0, 1, 100);
    x.bound(1, 0, 100);
    due("P26 they clash", x.span(0, 0), CLASHED);
    due("P25 the last goes", x.loose(), 1);
    spanOf(x, "P25 the first stays", 1, -899, 999);
    due("P25 the first goes", x.loose(), 0);
    spanOf(x, "P25 none stays", 1, -999, 999);
    due("P25 no more", x.loose(), STATE);
    due("P24 anew", x.bound(0, 1, 1), 1);
  }

  private static void spans() {
    InscribedStones x = stones(3);
    x.years(0, 10, 20);
    x.bound(0, 1, 50);
    spanOf(x, "P26 b is later", 1, 60, 999);
    spanOf(x, "P26 a as told", 0, 10, 20);
    x.years(1, 0, 62);
    spanOf(x, "P26 b ends a", 0, 10, 12);
    spanOf(x, "P26 b", 1, 60, 62);
    spanOf(x, "P26 apart from both", 2, -999, 999);
    x.bound(1, 2, -20);
    spanOf(x, "P26 c at most 20 ahead", 2, 40, 999);
    x.years(2, -999, 40);
    spanOf(x, "P26 c", 2, 40, 40);
    spanOf(x, "P26 b by c", 1, 60, 60);
    spanOf(x, "P26 a by c", 0, 10, 10);
    x.years(2, -999, 39);
    spanOf(x, "P26 one year too early", 0, CLASHED, CLASHED);
    spanOf(x, "P26 for all of them", 2, CLASHED, CLASHED);
    due("P26 bad though they clash", x.span(3, 0), BAD);
    due("P26 bad though they clash", x.span(0, 2), BAD);
    x.years(2, 500, 500);
    spanOf(x, "P26 no clash any more", 0, 10, 12);
    // Years beyond the ends of time clash too.
    x = stones(2);
    x.years(0, 900, 999);
    x.bound(0, 1, 99);
    spanOf(x, "P26 the last year", 1, 999, 999);
    spanOf(x, "P26 the last year", 0, 900, 900);
    x.loose();
    x.bound(0, 1, 100);
    spanOf(x, "P26 behind the last year", 0, CLASHED, CLASHED);
  }

  private static void chains() {
    InscribedStones x = stones(12);
    // Told from the end, so that each walk over the bounds carries a year just one stone on.
    for (int i = 10; i >= 0; i--) {
      x.bound(i, i + 1, 100);
    }
    x.years(0, 0, 999);
    due("P26 behind the last year", x.span(11, 0), CLASHED);
    x.years(0, -200, -150);
    spanOf(x, "P26 the end", 11, 900, 999);
    spanOf(x, "P26 the middle", 5, 300, 399);
    spanOf(x, "P26 the beginning", 0, -200, -150);
    x.years(11, -999, 920);
    spanOf(x, "P26 the beginning", 0, -200, -180);
    x = stones(12);
    for (int i = 0; i < 11; i++) {
      x.bound(i, i + 1, -100);
    }
    x.years(11, -999, -300);
    x.years(0, 0, 999);
    spanOf(x, "P26 down", 11, -999, -300);
    spanOf(x, "P26 the middle", 5, -500, 300);
    spanOf(x, "P26 the beginning", 0, 0, 800);
  }

  private static void rings() {
    InscribedStones x = stones(3);
    x.bound(0, 1, 5);
    x.bound(1, 2, 5);
    x.bound(2, 0, -10);
    spanOf(x, "P26 a ring that just goes", 0, -999, 989);
    spanOf(x, "P26 a ring that just goes", 2, -989, 999);
    due("P27 none", x.clash(), NONE);
    x.loose();
    x.bound(2, 0, -9);
    due("P26 a ring that does not", x.span(1, 0), CLASHED);
    due("P27 all three", x.clash(), 7);
  }

  private static void clashes() {
    InscribedStones x = stones(4);
    due("P27 none", x.clash(), NONE);
    x.bound(2, 3, 1);
    x.bound(0, 1, 1);
    x.bound(3, 2, -50);
    x.bound(1, 0, 0);
    x.bound(1, 0, 5);
    due("P27 the first ones stay", x.clash(), 1 << 1 | 1 << 3);
    x.loose();
    x.loose();
    due("P27 none any more", x.clash(), NONE);
    x.bound(3, 2, 0);
    due("P27 another one", x.clash(), 1 | 1 << 3);
    // Years alone and one bound.
    x = stones(3);
    x.years(0, 100, 200);
    x.years(1, 0, 50);
    x.bound(1, 0, 10);
    x.bound(2, 1, 3);
    x.bound(0, 1, -49);
    due("P27 one bound", x.clash(), 4);
    x.years(0, 99, 200);
    due("P27 no clash", x.clash(), NONE);
    due("P27 the bounds are not changed", x.count(4), 3);
    // Two clashes: from the last to the first, so that the last one goes.
    x = stones(4);
    x.bound(0, 1, 1);
    x.bound(2, 3, 1);
    x.bound(3, 2, 1);
    x.bound(1, 0, 1);
    due("P27 of two clashes", x.clash(), 1 << 1 | 1 << 2);
  }

  private static void clashesOfMany() {
    InscribedStones x = stones(12);
    for (int i = 0; i < 9; i++) {
      x.bound(9, 10, -10 - i);
    }
    for (int i = 0; i < 11; i++) {
      x.bound(i, (i + 1) % 11, 1);
    }
    due("P27 20 bounds", x.count(4), 20);
    due("P27 the ring", x.clash(), ((1 << 20) - 1) & ~511);
    due("P26 a stone that no bound tells of", x.span(11, 0), CLASHED);
    // Of two that do it alike the first one stays.
    x = stones(2);
    x.bound(0, 1, 5);
    x.bound(1, 0, -4);
    x.bound(1, 0, -3);
    due("P27 the first of two", x.clash(), 3);
  }
}
