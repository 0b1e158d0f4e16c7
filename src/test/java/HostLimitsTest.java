/** The boundaries that TRAYS and promises 36 to 39 name, each by the sentence that names it. */
public final class HostLimitsTest extends Asking {
  private static final int MISSING = -11;
  private static final int OUTSIDE = -12;
  private static final int OTHER = -13;
  private static final int BELOW = -14;

  public static void main(String[] args) {
    missingAtFirst();
    trayArguments();
    everySizeOfATray();
    aTrayMadeAnewIsAllZero();
    aTrayMadeAnewAlone();
    refusedTraysStay();
    cellArguments();
    theLowestEightBits();
    layArguments();
    everyByteThatIsLaid();
    everyPlaceToLayFrom();
    whatStoodAheadIsRead();
    layRefusalsReadNothing();
    laidBesideItsNeighbours();
    takenArguments();
    everyKindForEveryKind();
    notRead();
    Due.end();
  }

  // "TRAYS 0 .. 3 are rows of bytes, or missing (as all are at first)."
  private static void missingAtFirst() {
    InscribedStones x = made(1, 1, 1, 1);
    for (int tray = 0; tray < 4; tray++) {
      due("P37 missing " + tray, x.cell(tray, 0, 0), MISSING);
      due("P38 missing " + tray, x.lay(0, 0, 0, tray, 0), MISSING);
      due("P36 made " + tray, x.tray(tray, 1), 1);
      due("P37 there " + tray, x.cell(tray, 0, 0), 1);
    }
  }

  // "A TRAY is a row of n bytes, all 0; n NONE: it is missing: 1. BAD: no such TRAY, n above 40; -14 (n below -1)."
  private static void trayArguments() {
    range("P36 tray", n -> new InscribedStones().tray(n, 5), 0, 3, 1);
    range("P36 tray that is to be missing", n -> new InscribedStones().tray(n, NONE), 0, 3, 1);
    for (int n : new int[] {-1, 0, 1, 39, 40}) {
      due("P36 n " + n, new InscribedStones().tray(2, n), 1);
    }
    for (int n : new int[] {41, 42, 256, 1 << 16, Integer.MAX_VALUE}) {
      due("P36 n " + n, new InscribedStones().tray(2, n), BAD);
      due("P36 n " + n + " of none", new InscribedStones().tray(4, n), BAD);
    }
    for (int n : new int[] {-2, -3, -14, -256, Integer.MIN_VALUE}) {
      due("P36 n " + n, new InscribedStones().tray(2, n), BELOW);
      refused("P36 bad ahead of below, n " + n, t -> new InscribedStones().tray(t, n), 0, 3, BAD);
    }
  }

  private static void everySizeOfATray() {
    for (int n = 0; n <= 40; n++) {
      for (int tray = 0; tray < 4; tray++) {
        InscribedStones x = new InscribedStones();
        due("P36 of " + n, x.tray(tray, n), 1);
        due("P37 the first", x.cell(tray, 0, 7), n == 0 ? OUTSIDE : 1);
        due("P37 the last", x.cell(tray, n - 1, 7), n == 0 ? OUTSIDE : 1);
        due("P37 behind", x.cell(tray, n, 7), OUTSIDE);
        due("P37 ahead", x.cell(tray, -1, 7), OUTSIDE);
      }
    }
  }

  private static InscribedStones filled(int tray, String bytes) {
    InscribedStones x = made(2, 2, 4, 2);
    x.tray(tray, bytes.length());
    for (int i = 0; i < bytes.length(); i++) {
      x.cell(tray, i, bytes.charAt(i));
    }
    return x;
  }

  private static void aTrayMadeAnewIsAllZero() {
    String[] bytes = {"abcd", "abcdefgh", "abcdefghijklmnopqrstuvwxyzabcdefghijklmn"};
    for (String b : bytes) {
      InscribedStones x = filled(1, b);
      due("P38 letters", x.lay(0, 0, 0, 1, b.length() - 4), 4);
      due("P6 a letter", x.sign(0, 0, 3, 0), 0);
      due("P36 as long again", x.tray(1, b.length()), 1);
      due("P38 all 0", x.lay(0, 0, 0, 1, b.length() - 4), 4);
      due("P6 gone", x.sign(0, 0, 0, 0), 3);
      due("P6 gone", x.sign(0, 0, 3, 0), 3);
    }
    InscribedStones x = filled(1, "abcd");
    x.tray(1, 0);
    x.tray(1, 4);
    due("P38 made shorter and longer", x.lay(0, 0, 0, 1, 0), 4);
    due("P6 all 0", x.sign(0, 0, 0, 0), 3);
    x = filled(1, "abcd");
    x.tray(1, NONE);
    due("P37 missing", x.cell(1, 0, 0), MISSING);
    x.tray(1, 4);
    due("P38 missing and made anew", x.lay(0, 0, 0, 1, 0), 4);
    due("P6 all 0", x.sign(0, 0, 3, 0), 3);
  }

  private static void aTrayMadeAnewAlone() {
    for (int anew = 0; anew < 4; anew++) {
      for (int n = NONE; n <= 40; n++) {
        InscribedStones x = made(1, 1, 1, 1);
        for (int tray = 0; tray < 4; tray++) {
          x.tray(tray, 40);
          x.cell(tray, 0, 'a' + tray);
          x.cell(tray, 39, 'z' - tray);
        }
        x.tray(anew, n);
        for (int tray = 0; tray < 4; tray++) {
          boolean other = tray != anew;
          x.forget(0, 0, 0, 0);
          due("P38 first of " + tray, x.lay(0, 0, 0, tray, 0), other || n > 0 ? 1 : n == 0 ? OUTSIDE : MISSING);
          due("P6 its letter", x.sign(0, 0, 0, 1), other ? 1 << tray : ANY);
          x.forget(0, 0, 0, 0);
          due("P38 last of " + tray, x.lay(0, 0, 0, tray, 39), other || n == 40 ? 1 : n == NONE ? MISSING : OUTSIDE);
          due("P6 its letter", x.sign(0, 0, 0, 1), other ? 1 << 25 - tray : ANY);
        }
      }
    }
  }

  private static void refusedTraysStay() {
    for (int n : new int[] {41, Integer.MAX_VALUE, -2, Integer.MIN_VALUE}) {
      InscribedStones x = filled(3, "abcd");
      x.tray(3, n);
      x.tray(4, 0);
      x.tray(-1, 0);
      due("P38 still four", x.lay(0, 0, 0, 3, 0), 4);
      due("P6 its first letter", x.sign(0, 0, 0, 1), 1);
      due("P6 its last letter", x.sign(0, 0, 3, 1), 8);
      x.tray(2, n);
      due("P37 still missing", x.cell(2, 0, 0), MISSING);
    }
  }

  // "Byte i of a TRAY becomes v: 1. BAD: no such TRAY; -11; -12."
  private static void cellArguments() {
    refused("P37 tray", n -> new InscribedStones().cell(n, 0, 0), 0, 3, BAD);
    refused("P37 bad ahead of outside", n -> new InscribedStones().cell(n, -1, 0), 0, 3, BAD);
    refused("P37 missing ahead of outside", n -> new InscribedStones().cell(0, n, 0), 0, 39, MISSING);
    for (int tray = 0; tray < 4; tray++) {
      int t = tray;
      InscribedStones x = filled(tray, "abcd");
      refused("P37 i", n -> x.cell(t, n, 'z'), 0, 3, OUTSIDE);
      due("P38 none became z", x.lay(0, 0, 0, tray, 0), 4);
      same("P32 all as they were", Due.printed(x, 0, 0, NONE), "abcd");
      due("P37 the first", x.cell(tray, 0, 'y'), 1);
      due("P37 the last", x.cell(tray, 3, 'z'), 1);
      x.lay(0, 0, 0, tray, 0);
      same("P32 those two alone", Due.printed(x, 0, 0, NONE), "ybcz");
    }
    // A cell of one tray is none of another.
    InscribedStones x = new InscribedStones();
    for (int tray = 0; tray < 4; tray++) {
      x.tray(tray, 40);
    }
    x.stone(1, 1);
    x.hand(0);
    for (int i = 0; i < 160; i++) {
      x.cell(i / 40, i % 40, 'a' + i * 7 % 26);
    }
    for (int i = 0; i < 160; i++) {
      due("P38 one byte", x.lay(0, 0, 0, i / 40, i % 40), 1);
      if (i < 60 || i >= 120) {
        due("P6 that one", x.sign(0, 0, 0, 1), 1 << i * 7 % 26);
      }
    }
  }

  // "(its lowest 8 bits)"
  private static void theLowestEightBits() {
    int[] high = {0, 256, -256, 1 << 16, Integer.MIN_VALUE, Integer.MAX_VALUE - 255, 0x7eadbe00};
    for (int h : high) {
      InscribedStones x = filled(0, "    ");
      due("P37 a", x.cell(0, 0, h + 'a'), 1);
      due("P37 z", x.cell(0, 1, h + 'z'), 1);
      due("P37 32", x.cell(0, 2, h + 32), 1);
      due("P37 255", x.cell(0, 3, h + 255), 1);
      due("P38 all four", x.lay(0, 0, 0, 0, 0), 4);
      same("P32 by the lowest bits", Due.printed(x, 0, 0, NONE), "az_-");
    }
  }

  private static void layArguments() {
    range("P38 hand", n -> filled(1, "abcde").lay(n, 0, 0, 1, 0), 0, 1, 4);
    range("P38 stone", n -> filled(1, "abcde").lay(0, n, 0, 1, 0), 0, 1, 4);
    range("P38 line", n -> filled(1, "abcde").lay(0, 0, n, 1, 0), 0, 1, 4);
    refused("P38 tray", n -> filled(1, "abcde").lay(0, 0, 0, n, 0), 0, 3, BAD);
    refused("P38 from", n -> filled(1, "abcde").lay(0, 0, 0, 1, n), 0, 1, OUTSIDE);
    refused("P38 bad hand ahead of missing", n -> filled(1, "a").lay(n, 0, 0, 0, 0), 0, 1, BAD);
    refused("P38 bad stone ahead of missing", n -> filled(1, "a").lay(0, n, 0, 0, 0), 0, 1, BAD);
    refused("P38 bad line ahead of missing", n -> filled(1, "a").lay(0, 0, n, 0, 0), 0, 1, BAD);
    refused("P38 bad hand ahead of outside", n -> filled(1, "a").lay(n, 0, 0, 1, 9), 0, 1, BAD);
    refused("P38 bad stone ahead of outside", n -> filled(1, "a").lay(0, n, 0, 1, 9), 0, 1, BAD);
    refused("P38 bad line ahead of outside", n -> filled(1, "a").lay(0, 0, n, 1, 9), 0, 1, BAD);
    refused("P38 bad tray ahead of outside", n -> filled(1, "a").lay(0, 0, 0, n, 9), 0, 3, BAD);
    refused("P38 missing ahead of outside", n -> filled(1, "a").lay(0, 0, 0, 0, n), 0, 39, MISSING);
    due("P38 the last tray", filled(3, "abcd").lay(1, 1, 1, 3, 0), 4);
    due("P38 the first tray", filled(0, "abcd").lay(1, 1, 1, 0, 0), 4);
  }

  // "a .. z, 32 as SIGNS, else GONE"
  private static void everyByteThatIsLaid() {
    for (int b = 0; b < 256; b++) {
      InscribedStones x = made(1, 1, 1, 1);
      x.tray(0, 1);
      x.cell(0, 0, b);
      due("P38 byte " + b, x.lay(0, 0, 0, 0, 0), 1);
      boolean letter = b >= 'a' && b <= 'z';
      due("P6 its kind", x.sign(0, 0, 0, 0), letter || b == 32 ? 0 : 3);
      due("P6 its may", x.sign(0, 0, 0, 1), letter ? 1 << b - 'a' : b == 32 ? 1 << 26 : ANY);
      due("P6 its hand", x.sign(0, 0, 0, 2), 0);
    }
  }

  // "Bytes from one on, one for each PLACE of a LINE .. -12: the TRAY ends ahead"
  private static void everyPlaceToLayFrom() {
    for (int n = 0; n <= 40; n++) {
      InscribedStones x = made(1, 1, 24, 1);
      x.tray(0, n);
      for (int i = 0; i < n; i++) {
        x.cell(0, i, 'a');
      }
      for (int from = -1; from <= n + 1; from++) {
        boolean all = from >= 0 && from + 24 <= n;
        due("P38 from " + from + " of " + n, x.lay(0, 0, 0, 0, from), all ? 24 : OUTSIDE);
      }
    }
  }

  // "(what stood ahead of that is read then)"
  private static void whatStoodAheadIsRead() {
    for (int n = 0; n <= 6; n++) {
      for (int from = 0; from <= n; from++) {
        InscribedStones x = filled(2, "pqrstu".substring(0, n));
        int ahead = Math.min(4, n - from);
        due("P38 " + n + " from " + from, x.lay(0, 0, 0, 2, from), ahead == 4 ? 4 : OUTSIDE);
        for (int place = 0; place < 4; place++) {
          int letter = 'p' - 'a' + from + place;
          int may = x.taken(0, 0, 0, place, 0);
          due("P39 place " + place, may, place < ahead ? 1 << letter : MISSING);
          due("P39 not by another hand", x.taken(1, 0, 0, place, 0), MISSING);
          due("P39 nor on another line", x.taken(0, 0, 1, place, 0), MISSING);
          due("P39 nor on another stone", x.taken(0, 1, 0, place, 0), MISSING);
        }
      }
    }
    InscribedStones x = filled(0, "p");
    x.read(0, 0, 0, 0, 5, 1);
    x.read(0, 0, 0, 1, 5, 2);
    due("P38 it ends", x.lay(0, 0, 0, 0, 0), OUTSIDE);
    due("P39 the first is read", x.taken(0, 0, 0, 0, 0), 1 << 15);
    due("P39 the second as it was", x.taken(0, 0, 0, 1, 5), 1 << 2);
  }

  private static void layRefusalsReadNothing() {
    int[][] bad = {
      {2, 0, 0, 0, 0, BAD}, {0, 2, 0, 0, 0, BAD}, {0, 0, 2, 0, 0, BAD}, {0, 0, 0, 4, 0, BAD},
      {-1, 0, 0, 0, 0, BAD}, {0, -1, 0, 0, 0, BAD}, {0, 0, -1, 0, 0, BAD}, {0, 0, 0, -1, 0, BAD},
      {0, 0, 0, 1, 0, MISSING}, {0, 0, 0, 0, 6, OUTSIDE}, {0, 0, 0, 0, -1, OUTSIDE},
      {0, 0, 0, 0, -4, OUTSIDE}, {0, 0, 0, 0, Integer.MAX_VALUE, OUTSIDE},
      {0, 0, 0, 0, Integer.MAX_VALUE - 3, OUTSIDE}, {0, 0, 0, 0, Integer.MIN_VALUE, OUTSIDE},
    };
    for (int[] b : bad) {
      InscribedStones x = filled(0, "pqrstu");
      due("P38 refused", x.lay(b[0], b[1], b[2], b[3], b[4]), b[5]);
      for (int i = 0; i < 32; i++) {
        due("P39 not read", x.taken(i & 1, i >> 1 & 1, i >> 2 & 1, i >> 3, 0), MISSING);
      }
    }
  }

  // The lines that stand ahead and behind are not this one.
  private static void laidBesideItsNeighbours() {
    for (int at = 0; at < 12; at++) {
      InscribedStones x = made(2, 3, 24, 2);
      for (int i = 0; i < 24; i++) {
        x.read(i / 12, i / 6 % 2, i / 2 % 3, i % 2 * 23, 0, i);
      }
      x.tray(0, 40);
      for (int i = 0; i < 40; i++) {
        x.cell(0, i, 'z');
      }
      due("P38 24 places", x.lay(at / 6, at / 3 % 2, at % 3, 0, 8), 24);
      for (int i = 0; i < 24; i++) {
        int taken = x.taken(i / 12, i / 6 % 2, i / 2 % 3, i % 2 * 23, 0);
        due("P39 beside " + at + ", " + i, taken, i / 2 == at ? 1 << 25 : 1 << i);
      }
    }
  }

  private static InscribedStones reading(int kind) {
    InscribedStones x = made(2, 2, 4, 2);
    x.read(0, 0, 0, 0, kind, kind == 2 ? 3 : 1);
    return x;
  }

  // "BAD; -11: it has not read it; -13."
  private static void takenArguments() {
    refused("P39 hand", n -> reading(0).taken(n, 0, 0, 0, 0), 0, 1, BAD);
    refused("P39 stone", n -> reading(0).taken(0, n, 0, 0, 0), 0, 1, BAD);
    refused("P39 line", n -> reading(0).taken(0, 0, n, 0, 0), 0, 1, BAD);
    refused("P39 place", n -> reading(0).taken(0, 0, 0, n, 0), 0, 3, BAD);
    refused("P39 k", n -> reading(0).taken(0, 0, 0, 0, n), 0, 5, BAD);
    refused("P39 k ahead of not read", n -> reading(0).taken(0, 0, 0, 1, n), 0, 5, BAD);
    refused("P39 k of another kind", n -> reading(2).taken(0, 0, 0, 0, n), 0, 5, BAD);
    refused("P39 place ahead of another kind", n -> reading(2).taken(0, 0, 0, n, 5), 0, 3, BAD);
    for (int k = 1; k < 6; k++) {
      due("P39 not read ahead of another kind", reading(0).taken(0, 0, 0, 1, k), MISSING);
      due("P39 not read by that hand", reading(0).taken(1, 0, 0, 0, k), MISSING);
      due("P39 another kind", reading(0).taken(0, 0, 0, 0, k), OTHER);
    }
  }

  // "taken for a SIGN of a KIND k (0 .. 5) or one under that one (also by others between)"
  private static void everyKindForEveryKind() {
    String[] under = {"0", "10", "20", "30", "430", "50"};
    for (int kind = 0; kind < 6; kind++) {
      for (int k = 0; k < 6; k++) {
        InscribedStones x = reading(kind);
        int may = kind == 2 ? 3 : kind == 3 || kind == 4 ? ANY : 2;
        boolean is = under[kind].indexOf('0' + k) >= 0;
        due("P39 " + kind + " for " + k, x.taken(0, 0, 0, 0, k), is ? may : OTHER);
      }
    }
  }

  // "-11: it has not read it": not as GONE, which THE READING is.
  private static void notRead() {
    InscribedStones x = reading(3);
    due("P39 read as gone", x.taken(0, 0, 0, 0, 3), ANY);
    due("P39 not read", x.taken(0, 0, 0, 1, 3), MISSING);
    due("P39 not read, as a sign", x.taken(0, 0, 0, 1, 0), MISSING);
    due("P5 forgotten", x.forget(0, 0, 0, 0), 1);
    due("P39 forgotten", x.taken(0, 0, 0, 0, 3), MISSING);
    // Of a hand that does not lead too.
    x.hand(9);
    x.read(2, 0, 0, 0, 0, 4);
    x.read(0, 0, 0, 0, 1, 6);
    due("P39 of the hand that leads", x.taken(2, 0, 0, 0, 0), 1 << 4);
    due("P39 of the one that does not", x.taken(0, 0, 0, 0, 1), 1 << 6);
  }
}
