/** Promises 1 to 6: a new object, stones, hands and what they read. */
public final class SignsTest extends Asking {
  public static void main(String[] args) {
    newObject();
    stones();
    hands();
    kindsThatAreRead();
    readingsThatAreBad();
    forgetting();
    ranks();
    otherwise();
    Due.end();
  }

  private static void newObject() {
    InscribedStones x = new InscribedStones();
    for (int what = 0; what <= 7; what++) {
      due("P1 count(" + what + ")", x.count(what), 0);
    }
    due("P1 tolerance", x.count(8), 1);
    due("P1 sign", x.sign(0, 0, 0, 0), BAD);
    due("P1 texts", x.texts(0), BAD);
    due("P1 span", x.span(0, 0), BAD);
    due("P1 group", x.group(0), BAD);
    due("P1 clash", x.clash(), NONE);
    due("P1 loose", x.loose(), STATE);
    due("P1 formula of nothing", x.formula(), -20);
    for (int tray = 0; tray < 4; tray++) {
      due("P1 cell of a missing tray", x.cell(tray, 0, 1), -11);
    }
    InscribedStones y = new InscribedStones();
    x.stone(1, 1);
    x.hand(0);
    x.read(0, 0, 0, 0, 0, 3);
    x.tolerance(3);
    due("P1 another object's stones", y.count(0), 0);
    due("P1 another object's tolerance", y.count(8), 1);
  }

  private static void stones() {
    InscribedStones x = new InscribedStones();
    due("P2 no lines", x.stone(0, 5), BAD);
    due("P2 5 lines", x.stone(5, 5), BAD);
    due("P2 no places", x.stone(1, 0), BAD);
    due("P2 25 places", x.stone(1, 25), BAD);
    due("P2 below", x.stone(-1, -1), BAD);
    due("P2 wide", x.stone(Integer.MAX_VALUE, Integer.MIN_VALUE), BAD);
    due("P2 nothing kept", x.count(0), 0);
    due("P2 the least", x.stone(1, 1), 0);
    due("P2 the most", x.stone(4, 24), 1);
    due("P2 place within", x.sign(1, 3, 23, 0), 3);
    due("P2 place behind", x.sign(1, 3, 24, 0), BAD);
    due("P2 line behind", x.sign(1, 4, 0, 0), BAD);
    due("P2 small place", x.sign(0, 0, 0, 0), 3);
    due("P2 small line behind", x.sign(0, 1, 0, 0), BAD);
    due("P2 small place behind", x.sign(0, 0, 1, 0), BAD);
    for (int i = 2; i < 12; i++) {
      due("P2 stone", x.stone(2, 3), i);
    }
    due("P2 a 13th", x.stone(2, 3), FULL);
    due("P2 a bad 13th", x.stone(0, 3), BAD);
    due("P2 twelve", x.count(0), 12);
  }

  private static void hands() {
    InscribedStones x = new InscribedStones();
    due("P3 rank -1", x.hand(-1), BAD);
    due("P3 rank 10", x.hand(10), BAD);
    due("P3 rank 0", x.hand(0), 0);
    due("P3 rank 9", x.hand(9), 1);
    for (int i = 2; i < 6; i++) {
      due("P3 hand", x.hand(5), i);
    }
    due("P3 a seventh", x.hand(5), FULL);
    due("P3 a bad seventh", x.hand(10), BAD);
    due("P3 six", x.count(1), 6);
  }

  private static void kindsThatAreRead() {
    InscribedStones x = new InscribedStones();
    x.stone(2, 7);
    x.hand(4);
    int[] kinds = {0, 1, 2, 3, 4, 5};
    int[] values = {0, 25, 5, -77, 1 << 30, 26};
    int[] mays = {1, 1 << 25, 5, ANY, ANY, 1 << 26};
    for (int kind : kinds) {
      due("P4 kind " + kind, x.read(0, 0, 1, kind, kind, values[kind]), 1);
      due("P6 kind " + kind, x.sign(0, 1, kind, 0), kind);
      due("P6 may of kind " + kind, x.sign(0, 1, kind, 1), mays[kind]);
      due("P6 hand of kind " + kind, x.sign(0, 1, kind, 2), 0);
      due("P4 the other line", x.sign(0, 0, kind, 2), NONE);
    }
    due("P6 unread kind", x.sign(0, 1, 6, 0), 3);
    due("P6 unread may", x.sign(0, 1, 6, 1), ANY);
    due("P6 unread hand", x.sign(0, 1, 6, 2), NONE);
    due("P6 unread otherwise", x.sign(0, 1, 6, 3), 0);
    due("P4 half of all", x.read(0, 0, 0, 0, 2, ANY), 1);
    due("P6 half of all", x.sign(0, 0, 0, 1), ANY);
    due("P6 half of all is half", x.sign(0, 0, 0, 0), 2);
    due("P4 read anew", x.read(0, 0, 0, 0, 1, 2), 1);
    due("P6 read anew", x.sign(0, 0, 0, 1), 4);
    due("P6 what -1", x.sign(0, 0, 0, -1), BAD);
    due("P6 what 4", x.sign(0, 0, 0, 4), BAD);
    due("P6 no stone", x.sign(1, 0, 0, 0), BAD);
    due("P6 stone -1", x.sign(-1, 0, 0, 0), BAD);
    due("P6 line 2", x.sign(0, 2, 0, 0), BAD);
    due("P6 line -1", x.sign(0, -1, 0, 0), BAD);
    due("P6 place 7", x.sign(0, 0, 7, 0), BAD);
    due("P6 place -1", x.sign(0, 0, -1, 0), BAD);
  }

  private static void readingsThatAreBad() {
    InscribedStones x = new InscribedStones();
    x.stone(1, 2);
    due("P4 no hand", x.read(0, 0, 0, 0, 3, 0), BAD);
    x.hand(1);
    int[][] bad = {
      {-1, 0, 0, 0, 0, 0}, {1, 0, 0, 0, 0, 0}, {0, 1, 0, 0, 0, 0}, {0, -1, 0, 0, 0, 0},
      {0, 0, 1, 0, 0, 0}, {0, 0, -1, 0, 0, 0}, {0, 0, 0, 2, 0, 0}, {0, 0, 0, -1, 0, 0},
      {0, 0, 0, 0, 6, 0}, {0, 0, 0, 0, -1, 0}, {0, 0, 0, 0, 0, 27}, {0, 0, 0, 0, 0, -1},
      {0, 0, 0, 0, 1, 27}, {0, 0, 0, 0, 1, -1}, {0, 0, 0, 0, 5, 27}, {0, 0, 0, 0, 5, -1},
      {0, 0, 0, 0, 2, 0}, {0, 0, 0, 0, 2, 1}, {0, 0, 0, 0, 2, 1 << 26}, {0, 0, 0, 0, 2, 1 << 27},
      {0, 0, 0, 0, 2, (1 << 27) | 3}, {0, 0, 0, 0, 2, -1}, {0, 0, 0, 0, 2, Integer.MIN_VALUE},
      {0, 0, 0, 0, 0, 32}, {0, 0, 0, 0, 0, Integer.MAX_VALUE},
    };
    for (int[] a : bad) {
      due("P4 bad", x.read(a[0], a[1], a[2], a[3], a[4], a[5]), BAD);
    }
    due("P4 nothing was read", x.sign(0, 0, 0, 2), NONE);
    x.read(0, 0, 0, 0, 0, 7);
    due("P4 bad on top", x.read(0, 0, 0, 0, 0, 27), BAD);
    due("P4 what stood stands", x.sign(0, 0, 0, 1), 1 << 7);
  }

  private static void forgetting() {
    InscribedStones x = new InscribedStones();
    x.stone(1, 2);
    x.hand(1);
    due("P5 never read", x.forget(0, 0, 0, 0), 0);
    x.read(0, 0, 0, 0, 3, 0);
    x.read(0, 0, 0, 1, 0, 4);
    due("P5 read as gone", x.forget(0, 0, 0, 0), 1);
    due("P5 again", x.forget(0, 0, 0, 0), 0);
    due("P5 gone", x.sign(0, 0, 0, 2), NONE);
    due("P5 the other place", x.sign(0, 0, 1, 1), 16);
    due("P5 no hand", x.forget(1, 0, 0, 0), BAD);
    due("P5 hand -1", x.forget(-1, 0, 0, 0), BAD);
    due("P5 no stone", x.forget(0, 1, 0, 0), BAD);
    due("P5 no line", x.forget(0, 0, 1, 0), BAD);
    due("P5 no place", x.forget(0, 0, 0, 2), BAD);
    due("P5 place -1", x.forget(0, 0, 0, -1), BAD);
  }

  private static void ranks() {
    InscribedStones x = new InscribedStones();
    x.stone(1, 1);
    x.hand(3);
    x.hand(7);
    x.hand(7);
    x.hand(0);
    x.read(3, 0, 0, 0, 0, 3);
    due("P6 rank 0 alone", x.sign(0, 0, 0, 2), 3);
    x.read(2, 0, 0, 0, 0, 2);
    due("P6 the greater rank", x.sign(0, 0, 0, 2), 2);
    x.read(0, 0, 0, 0, 0, 0);
    due("P6 the lesser one is no matter", x.sign(0, 0, 0, 2), 2);
    x.read(1, 0, 0, 0, 3, 0);
    due("P6 of like ranks the first hand", x.sign(0, 0, 0, 2), 1);
    due("P6 read as gone", x.sign(0, 0, 0, 0), 3);
    due("P6 its may", x.sign(0, 0, 0, 1), ANY);
    x.forget(1, 0, 0, 0);
    due("P5 the next one", x.sign(0, 0, 0, 2), 2);
    x.forget(2, 0, 0, 0);
    due("P5 the third", x.sign(0, 0, 0, 2), 0);
  }

  private static void otherwise() {
    InscribedStones x = new InscribedStones();
    x.stone(1, 1);
    for (int rank = 9; rank > 3; rank--) {
      x.hand(rank);
    }
    x.read(0, 0, 0, 0, 0, 3);
    due("P6 one reads it alone", x.sign(0, 0, 0, 3), 0);
    x.read(1, 0, 0, 0, 0, 3);
    due("P6 alike", x.sign(0, 0, 0, 3), 0);
    x.read(2, 0, 0, 0, 1, 3);
    due("P6 another kind", x.sign(0, 0, 0, 3), 1);
    x.read(3, 0, 0, 0, 0, 4);
    due("P6 another may", x.sign(0, 0, 0, 3), 2);
    x.read(4, 0, 0, 0, 4, 0);
    due("P6 both", x.sign(0, 0, 0, 3), 3);
    x.forget(0, 0, 0, 0);
    due("P6 who has not read it is none", x.sign(0, 0, 0, 3), 3);
    x.read(0, 0, 0, 0, 2, 24);
    x.read(1, 0, 0, 0, 2, 24);
    x.read(2, 0, 0, 0, 2, 40);
    due("P6 halves", x.sign(0, 0, 0, 3), 3);
  }
}
