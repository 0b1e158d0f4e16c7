/** The boundaries that 3 EDGES and promises 15 to 22 name, each by the sentence that names it. */
public final class EdgesLimitsTest extends Asking {
  private static final int LEFT = 0;
  private static final int RIGHT = 1;

  public static void main(String[] args) {
    edgeArguments();
    edgesAreZeroAtFirst();
    toleranceArguments();
    differencesByTolerance();
    asManyLines();
    theSumOfAllLines();
    roomArguments();
    theLeastSumOfTwelve();
    ofLikeOnesTheLeastNumber();
    bestsThatHaveAJoinThere();
    bestArguments();
    joinArguments();
    eachTheOthersBest();
    ringsOfEverySize();
    aJoinStandsThoughABetterOneComes();
    everyEdgeEndsAJoin();
    everyToleranceEndsAll();
    partArguments();
    joinedArguments();
    wholeArguments();
    wholeOf24Places();
    wholeOfTwelveStones();
    Due.end();
  }

  // "for each LINE a number 0 .. 9" "(side 0 left, 1 right)" "BAD."
  private static void edgeArguments() {
    range("P15 stone", n -> made(2, 3, 1, 0).edge(n, 0, 0, 5), 0, 1, 0);
    range("P15 side", n -> made(2, 3, 1, 0).edge(0, n, 0, 5), 0, 1, 0);
    range("P15 line", n -> made(2, 3, 1, 0).edge(0, 0, n, 5), 0, 2, 0);
    range("P15 v", n -> made(2, 3, 1, 0).edge(0, 0, 0, n), 0, 9, 0);
    range("P15 the last stone", n -> made(12, 4, 1, 0).edge(n, 1, 3, 9), 0, 11, 0);
    for (int v = 0; v <= 9; v++) {
      InscribedStones x = made(2, 3, 1, 0);
      x.edge(1, 1, 2, v);
      refused("P15 v on top of " + v, n -> x.edge(1, 1, 2, n), 0, 9, BAD);
      due("P15 what it had", x.edge(1, 1, 2, 0), v);
    }
  }

  // "(0 at first)": and each number is that of one stone, side and line alone.
  private static void edgesAreZeroAtFirst() {
    InscribedStones x = made(12, 4, 1, 0);
    for (int i = 0; i < 96; i++) {
      due("P15 at first", x.edge(i / 8, i / 4 % 2, i % 4, (i * 7 + i / 10) % 10), 0);
    }
    for (int i = 0; i < 96; i++) {
      due("P15 then", x.edge(i / 8, i / 4 % 2, i % 4, 0), (i * 7 + i / 10) % 10);
    }
  }

  // "the TOLERANCE (0 .. 3; 1 at first)"
  private static void toleranceArguments() {
    range("P16 n", n -> new InscribedStones().tolerance(n), 0, 3, 1);
    InscribedStones x = new InscribedStones();
    due("P35 1 at first", x.count(8), 1);
    for (int n = 0; n <= 3; n++) {
      due("P16 what it was", x.tolerance(n), n == 0 ? 1 : n - 1);
      refused("P16 n on top of " + n, v -> x.tolerance(v), 0, 3, BAD);
      due("P35 it stands", x.count(8), n);
    }
  }

  // "differ by the TOLERANCE or less"
  private static void differencesByTolerance() {
    for (int tolerance = 0; tolerance <= 3; tolerance++) {
      InscribedStones x = made(2, 1, 1, 0);
      x.tolerance(tolerance);
      for (int right = 0; right <= 9; right++) {
        x.edge(0, RIGHT, 0, right);
        for (int left = 0; left <= 9; left++) {
          x.edge(1, LEFT, 0, left);
          int apart = Math.abs(right - left);
          String what = "P17 " + right + " and " + left + " by " + tolerance;
          due(what, x.room(0, 1), apart <= tolerance ? apart : NONE);
        }
      }
    }
  }

  // "if they have as many LINES, are not one"
  private static void asManyLines() {
    InscribedStones x = new InscribedStones();
    for (int i = 0; i < 8; i++) {
      x.stone(i % 4 + 1, i + 1);
    }
    for (int a = 0; a < 8; a++) {
      for (int b = 0; b < 8; b++) {
        boolean can = a % 4 == b % 4 && a != b;
        due("P17 " + a + " and " + b, x.room(a, b), can ? 0 : NONE);
      }
    }
  }

  // "and for each LINE" "THE SUM is that of all differences."
  private static void theSumOfAllLines() {
    for (int lines = 1; lines <= 4; lines++) {
      InscribedStones x = made(2, lines, 1, 0);
      x.tolerance(3);
      for (int line = 0; line < lines; line++) {
        x.edge(0, RIGHT, line, line % 2 == 0 ? 3 : 6);
        x.edge(1, LEFT, line, line % 2 == 0 ? 6 : 3);
        due("P17 of " + line + " more lines", x.room(0, 1), 3 * (line + 1));
      }
      for (int line = 0; line < lines; line++) {
        x.edge(1, LEFT, line, line % 2 == 0 ? 7 : 2);
        due("P17 one line alone too far", x.room(0, 1), NONE);
        x.edge(1, LEFT, line, line % 2 == 0 ? 6 : 3);
      }
      due("P17 all near", x.room(0, 1), 3 * lines);
    }
  }

  // "NONE: they can't be JOINED. BAD."
  private static void roomArguments() {
    range("P17 a", n -> made(3, 1, 1, 0).room(n, 1), 0, 2, 0);
    range("P17 b", n -> made(3, 1, 1, 0).room(1, n), 0, 2, 0);
    refused("P17 both", n -> made(3, 1, 1, 0).room(n, n), 0, 2, BAD);
    for (int i = 0; i < 3; i++) {
      due("P17 one with itself", made(3, 1, 1, 0).room(i, i), NONE);
    }
  }

  // "BEST of a: the b .. that has the least SUM"
  private static void theLeastSumOfTwelve() {
    for (int best = 1; best < 12; best++) {
      InscribedStones x = made(12, 1, 1, 0);
      x.tolerance(3);
      x.edge(0, RIGHT, 0, 4);
      x.edge(0, LEFT, 0, 4);
      for (int i = 1; i < 12; i++) {
        x.edge(i, LEFT, 0, i == best ? 6 : 7);
        x.edge(i, RIGHT, 0, i == best ? 2 : 1);
      }
      due("P18 on the right " + best, x.best(0, RIGHT), best);
      due("P18 on the left " + best, x.best(0, LEFT), best);
    }
  }

  // "of like ones the least number; of b likewise its a"
  private static void ofLikeOnesTheLeastNumber() {
    for (int n = 1; n <= 12; n++) {
      InscribedStones x = made(n, 1, 1, 0);
      for (int i = 0; i < n; i++) {
        int least = n == 1 ? NONE : i == 0 ? 1 : 0;
        due("P18 right of " + i + " of " + n, x.best(i, RIGHT), least);
        due("P18 left of " + i + " of " + n, x.best(i, LEFT), least);
      }
    }
    InscribedStones x = made(12, 1, 1, 0);
    for (int i = 0; i < 12; i++) {
      x.edge(i, LEFT, 0, i == 4 || i == 9 ? 3 : 4);
      x.edge(i, RIGHT, 0, i == 7 || i == 11 ? 2 : 9);
    }
    due("P18 of two near ones", x.best(7, RIGHT), 4);
    due("P18 of two near ones", x.best(4, LEFT), 7);
    due("P18 none for the others", x.best(0, RIGHT), NONE);
  }

  // "(those that have one on that side are left out of BEST)" "or it has a JOIN there"
  private static void bestsThatHaveAJoinThere() {
    InscribedStones x = made(4, 1, 1, 0);
    due("P19 joined", x.join(0, 1), 1);
    due("P18 it has one there", x.best(0, RIGHT), NONE);
    due("P18 it has one there", x.best(1, LEFT), NONE);
    due("P18 its other side", x.best(0, LEFT), 1);
    due("P18 its other side", x.best(1, RIGHT), 0);
    due("P18 0 is left out", x.best(2, LEFT), 1);
    due("P18 but not on its other side", x.best(2, RIGHT), 0);
    due("P20 undone", x.part(0), 1);
    due("P18 none is left out", x.best(2, LEFT), 0);
    due("P18 nor is it", x.best(0, RIGHT), 1);
    due("P19 joined the other way round", x.join(1, 0), 1);
    due("P18 0 is left out", x.best(2, RIGHT), 1);
    due("P18 but not on its other side", x.best(2, LEFT), 0);
    x = made(2, 1, 1, 0);
    due("P19 joined", x.join(0, 1), 1);
    x.stone(1, 1);
    due("P18 a new one's", x.best(2, LEFT), 1);
    due("P18 a new one's", x.best(2, RIGHT), 0);
  }

  private static void bestArguments() {
    range("P18 stone", n -> made(2, 1, 1, 0).best(n, 0) == BAD ? BAD : 0, 0, 1, 0);
    range("P18 side", n -> made(2, 1, 1, 0).best(0, n), 0, 1, 1);
    refused("P18 side of one that is joined", n -> {
      InscribedStones x = made(2, 1, 1, 0);
      x.join(0, 1);
      return x.best(0, n);
    }, 0, 1, BAD);
    due("P18 one stone alone", made(1, 1, 1, 0).best(0, 0), NONE);
    due("P18 one stone alone", made(1, 1, 1, 0).best(0, 1), NONE);
  }

  // "They are JOINED: 1. BAD; STATE"
  private static void joinArguments() {
    refused("P19 a", n -> made(3, 1, 1, 0).join(n, 1), 0, 2, BAD);
    refused("P19 b", n -> made(3, 1, 1, 0).join(0, n), 0, 2, BAD);
    refused("P19 both, not the best either", n -> made(3, 1, 1, 0).join(n, n), 0, 2, BAD);
    refused("P19 b of one that is joined", n -> {
      InscribedStones x = made(3, 1, 1, 0);
      x.join(0, 1);
      return x.join(0, n);
    }, 0, 2, BAD);
    for (int i = 0; i < 3; i++) {
      due("P19 with itself", made(3, 1, 1, 0).join(i, i), STATE);
    }
    due("P19 alone with itself", made(1, 1, 1, 0).join(0, 0), STATE);
  }

  // "STATE: one of both is not the other's BEST"
  private static void eachTheOthersBest() {
    for (int a = 0; a < 4; a++) {
      for (int b = 0; b < 4; b++) {
        InscribedStones x = made(4, 1, 1, 0);
        boolean best = a + b == 1;
        due("P19 " + a + " with " + b, x.join(a, b), best ? 1 : STATE);
        due("P35 joins", x.count(5), best ? 1 : 0);
        due("P21 right", x.joined(a, RIGHT), best ? b : NONE);
        due("P21 left", x.joined(b, LEFT), best ? a : NONE);
      }
    }
    // A lesser sum for one of the two alone, on either side.
    InscribedStones x = made(3, 1, 1, 0);
    x.edge(0, RIGHT, 0, 1);
    x.edge(2, LEFT, 0, 1);
    x.edge(2, RIGHT, 0, 9);
    due("P18 of b it is", x.best(1, LEFT), 0);
    due("P18 of a it is 2", x.best(0, RIGHT), 2);
    due("P19 not of a", x.join(0, 1), STATE);
    x = made(3, 1, 1, 0);
    x.edge(1, LEFT, 0, 1);
    x.edge(2, RIGHT, 0, 1);
    x.edge(2, LEFT, 0, 2);
    x.edge(0, LEFT, 0, 9);
    due("P18 of a it is", x.best(0, RIGHT), 1);
    due("P18 of b it is 2", x.best(1, LEFT), 2);
    due("P19 not of b", x.join(0, 1), STATE);
    due("P19 so it is of both", x.join(2, 1), 1);
    due("P35 one", x.count(5), 1);
  }

  /** Stones each of which fits the next one alone, and the last one the first. */
  private static InscribedStones rowOf(int n) {
    InscribedStones x = made(n, 2, 2, 0);
    x.tolerance(0);
    for (int i = 0; i < n; i++) {
      x.edge(i, RIGHT, 0, i % 10);
      x.edge(i, RIGHT, 1, i / 10);
      x.edge((i + 1) % n, LEFT, 0, i % 10);
      x.edge((i + 1) % n, LEFT, 1, i / 10);
    }
    return x;
  }

  // "or by it the STONES would make a ring"
  private static void ringsOfEverySize() {
    for (int n = 2; n <= 12; n++) {
      for (int last = 0; last < n; last++) {
        InscribedStones x = rowOf(n);
        for (int i = 1; i < n; i++) {
          int a = (last + i) % n;
          due("P19 " + a + " of " + n, x.join(a, (a + 1) % n), 1);
        }
        int b = (last + 1) % n;
        due("P18 each is the other's best", x.best(last, RIGHT), b);
        due("P18 each is the other's best", x.best(b, LEFT), last);
        due("P19 a ring of " + n, x.join(last, b), STATE);
        due("P35 all but one", x.count(5), n - 1);
        due("P20 undone", x.part(b), 1);
        due("P19 no ring then", x.join(last, b), 1);
      }
    }
  }

  // "then it stands, till it is undone, or .."
  private static void aJoinStandsThoughABetterOneComes() {
    InscribedStones x = made(3, 1, 1, 0);
    x.edge(0, RIGHT, 0, 4);
    x.edge(1, LEFT, 0, 5);
    due("P19 joined", x.join(0, 1), 1);
    x.edge(2, LEFT, 0, 4);
    x.edge(2, RIGHT, 0, 5);
    x.stone(1, 1);
    due("P17 a better one for 0", x.room(0, 2), 0);
    due("P17 a better one for 1", x.room(2, 1), 0);
    due("P21 it stands", x.joined(0, RIGHT), 1);
    due("P21 it stands", x.joined(1, LEFT), 0);
    due("P19 none beside it", x.join(0, 2), STATE);
    due("P19 none beside it", x.join(2, 1), STATE);
    due("P20 undone", x.part(0), 1);
    due("P19 not again", x.join(0, 1), STATE);
    due("P19 the better ones", x.join(0, 2), 1);
    due("P19 the better ones", x.join(2, 1), 1);
  }

  // "or any EDGE of either .. is told anew (also to what it was)"
  private static void everyEdgeEndsAJoin() {
    for (int stone = 0; stone < 4; stone++) {
      for (int i = 0; i < 4; i++) {
        InscribedStones x = rowOf(4);
        for (int a = 0; a < 3; a++) {
          x.join(a, a + 1);
        }
        due("P35 three", x.count(5), 3);
        int had = x.edge(stone, i / 2, i % 2, 9);
        x = rowOf(4);
        for (int a = 0; a < 3; a++) {
          x.join(a, a + 1);
        }
        due("P15 to what it was", x.edge(stone, i / 2, i % 2, had), had);
        due("P21 0 1", x.joined(0, RIGHT), stone <= 1 ? NONE : 1);
        due("P21 1 2", x.joined(1, RIGHT), stone == 1 || stone == 2 ? NONE : 2);
        due("P21 2 3", x.joined(2, RIGHT), stone >= 2 ? NONE : 3);
        due("P21 1 0", x.joined(1, LEFT), stone <= 1 ? NONE : 0);
        due("P21 2 1", x.joined(2, LEFT), stone == 1 || stone == 2 ? NONE : 1);
        due("P21 3 2", x.joined(3, LEFT), stone >= 2 ? NONE : 2);
        due("P35 joins", x.count(5), stone == 0 || stone == 3 ? 2 : 1);
      }
    }
  }

  // "or the TOLERANCE, is told anew (also to what it was)"
  private static void everyToleranceEndsAll() {
    for (int n = -1; n <= 4; n++) {
      InscribedStones x = rowOf(12);
      for (int a = 0; a < 11; a++) {
        x.join(a, a + 1);
      }
      due("P35 eleven", x.count(5), 11);
      boolean good = n >= 0 && n <= 3;
      due("P16 " + n, x.tolerance(n), good ? 0 : BAD);
      due("P35 joins then", x.count(5), good ? 0 : 11);
      due("P21 the first", x.joined(0, RIGHT), good ? NONE : 1);
      due("P21 the last", x.joined(11, LEFT), good ? NONE : 10);
    }
  }

  // "The JOIN on the right of a STONE ends: 1. BAD; STATE: there is none."
  private static void partArguments() {
    refused("P20 stone", n -> made(2, 1, 1, 0).part(n), 0, 1, BAD);
    due("P20 none there", made(2, 1, 1, 0).part(0), STATE);
    InscribedStones x = made(2, 1, 1, 0);
    x.join(0, 1);
    due("P20 none on its right", x.part(1), STATE);
    due("P35 it stands", x.count(5), 1);
    due("P20 one", x.part(0), 1);
    due("P20 no more", x.part(0), STATE);
    due("P21 not on the right", x.joined(0, RIGHT), NONE);
    due("P21 not on the left", x.joined(1, LEFT), NONE);
    due("P19 the other way round then", x.join(1, 0), 1);
    due("P20 the last stone", x.part(1), 1);
  }

  // "The STONE JOINED on a side. NONE. BAD."
  private static void joinedArguments() {
    range("P21 stone", n -> made(2, 1, 1, 0).joined(n, 0), 0, 1, NONE);
    range("P21 side", n -> made(2, 1, 1, 0).joined(0, n), 0, 1, NONE);
    InscribedStones x = made(2, 1, 1, 0);
    x.join(0, 1);
    refused("P21 side of one that is joined", n -> x.joined(0, n), 0, 1, BAD);
    refused("P21 side of one that is joined", n -> x.joined(1, n), 0, 1, BAD);
  }

  // "BAD; STATE: the STONE has a JOIN on its left."
  private static void wholeArguments() {
    InscribedStones x = made(2, 3, 2, 0);
    Due.formula(x, "a.");
    Due.formula(x, "b.");
    range("P22 stone", n -> x.whole(n, 0, 0), 0, 1, 1);
    range("P22 line", n -> x.whole(0, n, 0), 0, 2, 1);
    range("P22 formula", n -> x.whole(0, 0, n), 0, 1, 1);
    x.join(0, 1);
    due("P22 a join on its left", x.whole(1, 0, 0), STATE);
    due("P22 the last line too", x.whole(1, 2, 1), STATE);
    refused("P22 line ahead of state", n -> x.whole(1, n, 0), 0, 2, BAD);
    refused("P22 formula ahead of state", n -> x.whole(1, 0, n), 0, 1, BAD);
    due("P22 a join on its right alone", x.whole(0, 2, 0), 1);
    x.part(0);
    due("P22 none any more", x.whole(1, 0, 0), 1);
  }

  // "24 PLACES at most, else it has none"
  private static void wholeOf24Places() {
    for (int left = 1; left <= 24; left++) {
      for (int right = Math.max(1, 23 - left); right <= 24 && right <= 26 - left; right++) {
        InscribedStones x = new InscribedStones();
        x.stone(1, left);
        x.stone(1, right);
        Due.formula(x, "[abcdefgh abcdefgh abcdef].");
        x.join(0, 1);
        int places = left + right;
        int ways = places > 24 ? 0 : places == 24 ? 2 : 1;
        due("P22 " + left + " and " + right, x.whole(0, 0, 0), ways);
      }
    }
  }

  private static void wholeOfTwelveStones() {
    for (int wider = NONE; wider < 12; wider++) {
      InscribedStones x = new InscribedStones();
      for (int i = 0; i < 12; i++) {
        x.stone(2, i == wider ? 3 : 2);
      }
      x.tolerance(0);
      for (int i = 0; i < 11; i++) {
        x.edge(i, RIGHT, i / 9, i % 9 + 1);
        x.edge(i + 1, LEFT, i / 9, i % 9 + 1);
      }
      for (int i = 0; i < 11; i++) {
        due("P19 " + i, x.join(i, i + 1), 1);
      }
      x.hand(0);
      Due.formula(x, "[abcdefgh abcdefgh (abcdef|abcdeg)].");
      due("P22 wider is " + wider, x.whole(0, 1, 0), wider == NONE ? 3 : 0);
      x.read(0, 11, 1, 1, 0, 6);
      due("P22 the last letter of all", x.whole(0, 1, 0), wider == NONE ? 1 : 0);
      x.part(10);
      due("P22 without the last stone", x.whole(0, 1, 0), 1);
      due("P22 the last stone alone", x.whole(11, 1, 0), 0);
    }
  }
}
