/** Promises 36 to 39: trays, and what is taken for a sign of a kind. */
public final class HostTest extends Asking {
  private static final int MISSING = -11;
  private static final int OUTSIDE = -12;
  private static final int OTHER = -13;
  private static final int BELOW = -14;

  public static void main(String[] args) {
    trays();
    cells();
    laying();
    layingThatEnds();
    layingThatIsBad();
    taking();
    takingThatIsBad();
    Due.end();
  }

  private static void trays() {
    InscribedStones x = new InscribedStones();
    due("P36 the most", x.tray(3, 40), 1);
    due("P36 none", x.tray(0, 0), 1);
    due("P36 tray 4", x.tray(4, 1), BAD);
    due("P36 tray -1", x.tray(-1, 1), BAD);
    due("P36 41", x.tray(0, 41), BAD);
    due("P36 wide", x.tray(0, Integer.MAX_VALUE), BAD);
    due("P36 -2", x.tray(0, -2), BELOW);
    due("P36 least", x.tray(0, Integer.MIN_VALUE), BELOW);
    due("P36 bad ahead of that", x.tray(4, -2), BAD);
    due("P36 bad ahead of that", x.tray(-1, -2), BAD);
    due("P36 still of no bytes", x.cell(0, 0, 1), OUTSIDE);
    due("P36 missing", x.tray(3, NONE), 1);
    due("P37 missing", x.cell(3, 0, 1), MISSING);
    due("P36 missing again", x.tray(3, NONE), 1);
    due("P36 there again", x.tray(3, 1), 1);
    due("P37 there again", x.cell(3, 0, 1), 1);
  }

  private static void cells() {
    InscribedStones x = new InscribedStones();
    x.tray(1, 3);
    due("P37 first", x.cell(1, 0, 97), 1);
    due("P37 last", x.cell(1, 2, 98), 1);
    due("P37 behind", x.cell(1, 3, 97), OUTSIDE);
    due("P37 i -1", x.cell(1, -1, 97), OUTSIDE);
    due("P37 i wide", x.cell(1, Integer.MAX_VALUE, 97), OUTSIDE);
    due("P37 i least", x.cell(1, Integer.MIN_VALUE, 97), OUTSIDE);
    due("P37 tray 4", x.cell(4, 0, 97), BAD);
    due("P37 tray -1", x.cell(-1, 0, 97), BAD);
    due("P37 missing", x.cell(0, 0, 97), MISSING);
    due("P37 missing ahead of outside", x.cell(0, 99, 97), MISSING);
    x.tray(2, 40);
    due("P37 the 40th", x.cell(2, 39, 0), 1);
    due("P37 the 41st", x.cell(2, 40, 0), OUTSIDE);
  }

  private static InscribedStones laid(int places, String bytes) {
    InscribedStones x = new InscribedStones();
    x.stone(2, places);
    x.hand(0);
    x.tray(0, bytes.length());
    for (int i = 0; i < bytes.length(); i++) {
      x.cell(0, i, bytes.charAt(i));
    }
    return x;
  }

  private static void laying() {
    InscribedStones x = laid(9, "az A_`{\u0000\u00ffq");
    due("P38 all", x.lay(0, 0, 1, 0, 0), 9);
    int[] kinds = {0, 0, 0, 3, 3, 3, 3, 3, 3};
    int[] mays = {1, 1 << 25, 1 << 26, ANY, ANY, ANY, ANY, ANY, ANY};
    for (int i = 0; i < 9; i++) {
      due("P38 kind " + i, x.sign(0, 1, i, 0), kinds[i]);
      due("P38 may " + i, x.sign(0, 1, i, 1), mays[i]);
      due("P38 hand " + i, x.sign(0, 1, i, 2), 0);
      due("P38 the other line " + i, x.sign(0, 0, i, 2), NONE);
    }
    due("P38 from one on", x.lay(0, 0, 0, 0, 1), 9);
    due("P38 the second byte", x.sign(0, 0, 0, 1), 1 << 25);
    due("P38 the last byte", x.sign(0, 0, 8, 1), 1 << 16);
    x.cell(0, 2, 256 + 'c');
    x.cell(0, 3, 'd' - 256);
    due("P38 what cells became", x.lay(0, 0, 0, 0, 1), 9);
    due("P37 the lowest bits", x.sign(0, 0, 1, 1), 1 << 2);
    due("P37 the lowest bits", x.sign(0, 0, 2, 1), 1 << 3);
    x.tray(0, 10);
    due("P38 made anew", x.lay(0, 0, 0, 0, 0), 9);
    due("P36 all 0", x.sign(0, 0, 0, 0), 3);
    due("P36 all 0", x.sign(0, 0, 8, 0), 3);
  }

  private static void layingThatEnds() {
    InscribedStones x = laid(4, "abc");
    x.read(0, 0, 0, 3, 0, 9);
    due("P38 it ends", x.lay(0, 0, 0, 0, 1), OUTSIDE);
    due("P38 what stood is read", x.sign(0, 0, 0, 1), 2);
    due("P38 what stood is read", x.sign(0, 0, 1, 1), 4);
    due("P38 no more", x.sign(0, 0, 2, 2), NONE);
    due("P38 as it was", x.sign(0, 0, 3, 1), 1 << 9);
    due("P38 from its end", x.lay(0, 0, 1, 0, 3), OUTSIDE);
    due("P38 from -1", x.lay(0, 0, 1, 0, -1), OUTSIDE);
    due("P38 from wide", x.lay(0, 0, 1, 0, Integer.MAX_VALUE), OUTSIDE);
    due("P38 from near wide", x.lay(0, 0, 1, 0, Integer.MAX_VALUE - 1), OUTSIDE);
    due("P38 from least", x.lay(0, 0, 1, 0, Integer.MIN_VALUE), OUTSIDE);
    for (int i = 0; i < 4; i++) {
      due("P38 nothing read", x.sign(0, 1, i, 2), NONE);
    }
    x.tray(1, 0);
    due("P38 no bytes", x.lay(0, 0, 1, 1, 0), OUTSIDE);
    due("P38 nothing read", x.sign(0, 1, 0, 2), NONE);
    // The next tray's bytes are none of this one's.
    x.tray(0, 40);
    x.tray(1, 40);
    x.cell(1, 0, 'a');
    due("P38 the last three", x.lay(0, 0, 1, 0, 37), OUTSIDE);
    due("P38 not of the next tray", x.sign(0, 1, 3, 2), NONE);
    due("P38 the last four", x.lay(0, 0, 1, 0, 36), 4);
  }

  private static void layingThatIsBad() {
    InscribedStones x = laid(2, "abc");
    due("P38 no hand", x.lay(1, 0, 0, 0, 0), BAD);
    due("P38 hand -1", x.lay(-1, 0, 0, 0, 0), BAD);
    due("P38 no stone", x.lay(0, 1, 0, 0, 0), BAD);
    due("P38 stone -1", x.lay(0, -1, 0, 0, 0), BAD);
    due("P38 no line", x.lay(0, 0, 2, 0, 0), BAD);
    due("P38 line -1", x.lay(0, 0, -1, 0, 0), BAD);
    due("P38 tray 4", x.lay(0, 0, 0, 4, 0), BAD);
    due("P38 tray -1", x.lay(0, 0, 0, -1, 0), BAD);
    due("P38 missing", x.lay(0, 0, 0, 1, 0), MISSING);
    due("P38 missing ahead of outside", x.lay(0, 0, 0, 1, 99), MISSING);
    due("P38 bad ahead of missing", x.lay(0, 0, 2, 1, 0), BAD);
    due("P38 nothing read", x.sign(0, 0, 0, 2), NONE);
  }

  private static void taking() {
    InscribedStones x = new InscribedStones();
    x.stone(1, 6);
    x.hand(0);
    x.hand(9);
    int[] values = {3, 4, 48, 0, 0, 26};
    int[] mays = {8, 16, 48, ANY, ANY, 1 << 26};
    for (int kind = 0; kind < 6; kind++) {
      x.read(0, 0, 0, kind, kind, values[kind]);
      x.read(1, 0, 0, kind, 0, 20);
    }
    for (int kind = 0; kind < 6; kind++) {
      for (int k = 0; k < 6; k++) {
        boolean under = k == 0 || k == kind || kind == 4 && k == 3;
        due("P39 " + kind + " for " + k, x.taken(0, 0, 0, kind, k), under ? mays[kind] : OTHER);
      }
      due("P39 another hand's", x.taken(1, 0, 0, kind, 0), 1 << 20);
    }
  }

  private static void takingThatIsBad() {
    InscribedStones x = new InscribedStones();
    x.stone(1, 2);
    x.hand(0);
    x.hand(1);
    x.read(0, 0, 0, 0, 0, 1);
    due("P39 not read", x.taken(0, 0, 0, 1, 0), MISSING);
    due("P39 not read, as gone", x.taken(0, 0, 0, 1, 3), MISSING);
    due("P39 not read by that one", x.taken(1, 0, 0, 0, 0), MISSING);
    due("P39 missing ahead of another kind", x.taken(0, 0, 0, 1, 5), MISSING);
    due("P39 k 6", x.taken(0, 0, 0, 0, 6), BAD);
    due("P39 k -1", x.taken(0, 0, 0, 0, -1), BAD);
    due("P39 bad ahead of missing", x.taken(0, 0, 0, 1, 6), BAD);
    due("P39 no hand", x.taken(2, 0, 0, 0, 0), BAD);
    due("P39 hand -1", x.taken(-1, 0, 0, 0, 0), BAD);
    due("P39 no stone", x.taken(0, 1, 0, 0, 0), BAD);
    due("P39 no line", x.taken(0, 0, 1, 0, 0), BAD);
    due("P39 no place", x.taken(0, 0, 0, 2, 0), BAD);
    due("P39 place -1", x.taken(0, 0, 0, -1, 0), BAD);
    x.forget(0, 0, 0, 0);
    due("P39 forgotten", x.taken(0, 0, 0, 0, 0), MISSING);
  }
}
