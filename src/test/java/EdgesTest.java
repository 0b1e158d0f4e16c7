/** Promises 15 to 22: edges, the tolerance, joins and whole lines. */
public final class EdgesTest extends Asking {
  private static final int LEFT = 0;
  private static final int RIGHT = 1;

  public static void main(String[] args) {
    tellingEdges();
    tellingTolerance();
    sums();
    bests();
    joins();
    joinsThatAreRefused();
    rings();
    joinsThatEnd();
    parts();
    wholeLines();
    Due.end();
  }

  private static InscribedStones stones(int... lines) {
    InscribedStones x = new InscribedStones();
    for (int n : lines) {
      x.stone(n, 3);
    }
    return x;
  }

  private static void tellingEdges() {
    InscribedStones x = stones(2, 2);
    due("P15 first", x.edge(0, LEFT, 0, 9), 0);
    due("P15 the other side", x.edge(0, RIGHT, 0, 4), 0);
    due("P15 the other line", x.edge(0, LEFT, 1, 5), 0);
    due("P15 the other stone", x.edge(1, LEFT, 0, 6), 0);
    due("P15 again", x.edge(0, LEFT, 0, 0), 9);
    due("P15 and again", x.edge(0, LEFT, 0, 1), 0);
    due("P15 what the others had", x.edge(0, RIGHT, 0, 4), 4);
    due("P15 what the others had", x.edge(0, LEFT, 1, 5), 5);
    due("P15 v 10", x.edge(0, 0, 0, 10), BAD);
    due("P15 v -1", x.edge(0, 0, 0, -1), BAD);
    due("P15 side 2", x.edge(0, 2, 0, 1), BAD);
    due("P15 side -1", x.edge(0, -1, 0, 1), BAD);
    due("P15 line 2", x.edge(0, 0, 2, 1), BAD);
    due("P15 line -1", x.edge(0, 0, -1, 1), BAD);
    due("P15 stone 2", x.edge(2, 0, 0, 1), BAD);
    due("P15 stone -1", x.edge(-1, 0, 0, 1), BAD);
    due("P15 it stands", x.edge(0, LEFT, 0, 1), 1);
  }

  private static void tellingTolerance() {
    InscribedStones x = stones(1, 1);
    due("P16 what it was", x.tolerance(3), 1);
    due("P16 4", x.tolerance(4), BAD);
    due("P16 -1", x.tolerance(-1), BAD);
    due("P16 it stands", x.tolerance(0), 3);
    due("P16 none", x.tolerance(2), 0);
    due("P35 the tolerance", x.count(8), 2);
  }

  private static void sums() {
    InscribedStones x = stones(2, 2, 1, 2);
    due("P17 nothing told", x.room(0, 1), 0);
    due("P17 another count of lines", x.room(0, 2), NONE);
    due("P17 the same stone", x.room(0, 0), NONE);
    x.edge(0, RIGHT, 0, 3);
    x.edge(1, LEFT, 0, 4);
    x.edge(0, RIGHT, 1, 7);
    x.edge(1, LEFT, 1, 6);
    due("P17 both lines", x.room(0, 1), 2);
    due("P17 the other way round", x.room(1, 0), 0);
    x.edge(1, LEFT, 1, 5);
    due("P17 one line too far", x.room(0, 1), NONE);
    x.tolerance(2);
    due("P17 with more tolerance", x.room(0, 1), 3);
    x.tolerance(0);
    due("P17 with none", x.room(0, 1), NONE);
    due("P17 with none, alike", x.room(1, 0), 0);
    due("P17 no stone", x.room(0, 4), BAD);
    due("P17 no stone", x.room(4, 0), BAD);
    due("P17 stone -1", x.room(-1, 0), BAD);
    due("P17 stone -1", x.room(0, -1), BAD);
    due("P17 no stones", x.room(4, 4), BAD);
    x.tolerance(3);
    x.edge(3, LEFT, 0, 0);
    x.edge(3, LEFT, 1, 9);
    due("P17 3 and 2 apart", x.room(0, 3), 5);
    x.edge(3, LEFT, 0, 7);
    due("P17 4 apart", x.room(0, 3), NONE);
    x = stones(1, 1);
    x.join(0, 1);
    due("P17 of stones that are joined", x.room(0, 1), 0);
  }

  private static void bests() {
    InscribedStones x = stones(1, 1, 1, 1, 2);
    due("P18 of like ones the least", x.best(0, RIGHT), 1);
    due("P18 not itself", x.best(1, RIGHT), 0);
    due("P18 none with as many lines", x.best(4, RIGHT), NONE);
    due("P18 nor on the left", x.best(4, LEFT), NONE);
    x.edge(0, RIGHT, 0, 5);
    due("P18 none near", x.best(0, RIGHT), NONE);
    x.edge(1, LEFT, 0, 6);
    x.edge(2, LEFT, 0, 5);
    x.edge(3, LEFT, 0, 5);
    due("P18 the least sum", x.best(0, RIGHT), 2);
    due("P18 on the left", x.best(3, LEFT), 0);
    due("P18 on the left", x.best(0, LEFT), 1);
    due("P19 joined", x.join(0, 2), 1);
    due("P18 it has a join there", x.best(0, RIGHT), NONE);
    due("P18 so has the other", x.best(2, LEFT), NONE);
    due("P18 no more for another", x.best(3, LEFT), NONE);
    due("P18 its other side", x.best(0, LEFT), 1);
    due("P18 side 2", x.best(0, 2), BAD);
    due("P18 side -1", x.best(0, -1), BAD);
    due("P18 stone 5", x.best(5, 0), BAD);
    due("P18 stone -1", x.best(-1, 1), BAD);
    x = stones(1, 1, 1);
    due("P19 joined", x.join(0, 1), 1);
    due("P18 left out with a join there", x.best(2, RIGHT), 0);
    due("P18 left out with a join there", x.best(2, LEFT), 1);
    due("P18 the end of a row", x.best(1, RIGHT), 0);
  }

  private static void joins() {
    InscribedStones x = stones(1, 1, 1);
    due("P21 none", x.joined(0, RIGHT), NONE);
    due("P35 no joins", x.count(5), 0);
    due("P19 joined", x.join(0, 1), 1);
    due("P21 on the right", x.joined(0, RIGHT), 1);
    due("P21 on the left", x.joined(1, LEFT), 0);
    due("P21 not on the left", x.joined(0, LEFT), NONE);
    due("P21 not on the right", x.joined(1, RIGHT), NONE);
    due("P35 one join", x.count(5), 1);
    due("P19 a second", x.join(1, 2), STATE);
    due("P18 as the best of 1 is", x.best(1, RIGHT), 0);
    due("P21 side 2", x.joined(0, 2), BAD);
    due("P21 side -1", x.joined(0, -1), BAD);
    due("P21 stone 3", x.joined(3, 0), BAD);
    due("P21 stone -1", x.joined(-1, 0), BAD);
    x.stone(1, 1);
    x.edge(3, LEFT, 0, 1);
    due("P21 it stands though others come", x.joined(0, RIGHT), 1);
  }

  private static void joinsThatAreRefused() {
    InscribedStones x = stones(1, 1, 1, 2);
    due("P19 no stone", x.join(0, 4), BAD);
    due("P19 no stone", x.join(4, 0), BAD);
    due("P19 stone -1", x.join(-1, 0), BAD);
    due("P19 stone -1", x.join(0, -1), BAD);
    due("P19 itself", x.join(0, 0), STATE);
    due("P19 another count of lines", x.join(0, 3), STATE);
    due("P19 not the best of a", x.join(0, 2), STATE);
    due("P19 not the best of b", x.join(2, 1), STATE);
    due("P35 none stands", x.count(5), 0);
    due("P19 the best of each", x.join(0, 1), 1);
    due("P19 it stands already", x.join(0, 1), STATE);
    due("P19 b has one there", x.join(2, 1), STATE);
    due("P19 a has one there", x.join(0, 2), STATE);
    due("P35 one stands", x.count(5), 1);
    // Of a the best is b, but of b it is another one.
    x = stones(1, 1, 1);
    x.edge(0, RIGHT, 0, 4);
    x.edge(1, LEFT, 0, 5);
    x.edge(2, RIGHT, 0, 5);
    due("P18 of a", x.best(0, RIGHT), 1);
    due("P18 of b", x.best(1, LEFT), 2);
    due("P19 the one is not enough", x.join(0, 1), STATE);
    due("P19 the other", x.join(2, 1), 1);
    due("P18 of a then", x.best(0, RIGHT), NONE);
  }

  private static void rings() {
    InscribedStones x = stones(1, 1);
    due("P19 joined", x.join(0, 1), 1);
    due("P18 its best is there", x.best(1, RIGHT), 0);
    due("P18 and back", x.best(0, LEFT), 1);
    due("P19 a ring of two", x.join(1, 0), STATE);
    due("P35 one", x.count(5), 1);
    // Each edge alike with just the next one's.
    x = stones(1, 1, 1, 1);
    for (int i = 0; i < 4; i++) {
      x.edge(i, RIGHT, 0, 2 * i);
      x.edge((i + 1) % 4, LEFT, 0, 2 * i);
    }
    due("P19 1 2", x.join(1, 2), 1);
    due("P19 3 0", x.join(3, 0), 1);
    due("P19 0 1", x.join(0, 1), 1);
    due("P19 a ring of four", x.join(2, 3), STATE);
    due("P20 undone", x.part(0), 1);
    due("P19 no ring then", x.join(2, 3), 1);
    due("P19 but here", x.join(0, 1), STATE);
    due("P35 three", x.count(5), 3);
  }

  private static InscribedStones row() {
    InscribedStones x = stones(1, 1, 1, 1);
    for (int i = 0; i < 3; i++) {
      x.edge(i, RIGHT, 0, 2 * i + 2);
      x.edge(i + 1, LEFT, 0, 2 * i + 2);
    }
    due("P19 0 1", x.join(0, 1), 1);
    due("P19 1 2", x.join(1, 2), 1);
    due("P19 2 3", x.join(2, 3), 1);
    return x;
  }

  private static void stand(InscribedStones x, String what, int... right) {
    int ties = 0;
    for (int i = 0; i < right.length; i++) {
      due(what + " right of " + i, x.joined(i, RIGHT), right[i]);
      if (right[i] != NONE) {
        due(what + " left of " + right[i], x.joined(right[i], LEFT), i);
        ties++;
      }
    }
    due(what + " joins", x.count(5), ties);
  }

  private static void joinsThatEnd() {
    InscribedStones x = row();
    stand(x, "P19 all", 1, 2, 3, NONE);
    due("P15 to what it was", x.edge(1, RIGHT, 0, 4), 4);
    stand(x, "P15 both of 1 end", NONE, NONE, 3, NONE);
    x = row();
    due("P15 the left one", x.edge(1, LEFT, 0, 2), 2);
    stand(x, "P15 both of 1 end", NONE, NONE, 3, NONE);
    x = row();
    due("P15 an outer edge", x.edge(0, LEFT, 0, 5), 0);
    stand(x, "P15 that of 0 ends", NONE, 2, 3, NONE);
    x = row();
    due("P15 an outer edge", x.edge(3, RIGHT, 0, 0), 0);
    stand(x, "P15 that of 3 ends", 1, 2, NONE, NONE);
    x = row();
    due("P15 refused", x.edge(1, RIGHT, 0, 10), BAD);
    due("P16 refused", x.tolerance(4), BAD);
    x.stone(1, 1);
    stand(x, "P15 refusals end none", 1, 2, 3, NONE, NONE);
    due("P16 to what it was", x.tolerance(1), 1);
    stand(x, "P16 all end", NONE, NONE, NONE, NONE, NONE);
    due("P19 anew", x.join(1, 2), 1);
    due("P16 to more", x.tolerance(2), 1);
    stand(x, "P16 all end", NONE, NONE, NONE, NONE, NONE);
  }

  private static void parts() {
    InscribedStones x = row();
    due("P20 none there", x.part(3), STATE);
    due("P20 1", x.part(1), 1);
    stand(x, "P20 one ends", 1, NONE, 3, NONE);
    due("P20 1 again", x.part(1), STATE);
    due("P20 no stone", x.part(4), BAD);
    due("P20 stone -1", x.part(-1), BAD);
    due("P19 anew", x.join(1, 2), 1);
    stand(x, "P19 anew", 1, 2, 3, NONE);
  }

  private static void wholeLines() {
    InscribedStones x = new InscribedStones();
    x.stone(2, 10);
    x.stone(2, 13);
    x.stone(2, 1);
    x.stone(2, 1);
    x.hand(0);
    for (int i = 0; i < 3; i++) {
      x.edge(i, RIGHT, 0, 3 * i + 3);
      x.edge(i + 1, LEFT, 0, 3 * i + 3);
    }
    Due.formula(x, "abcdefgh ijk|abcdefgh|abcdefgh abcdefgh abcdef.");
    due("P22 alone", x.whole(0, 1, 0), 1);
    due("P22 alone", x.whole(1, 1, 0), 2);
    due("P19 0 1", x.join(0, 1), 1);
    due("P22 two stones", x.whole(0, 1, 0), 2);
    due("P22 a join on its left", x.whole(1, 1, 0), STATE);
    due("P11 its own line still", x.ways(0, 1, 0), 1);
    x.read(0, 1, 1, 0, 0, 9);
    due("P22 a letter of the second stone", x.whole(0, 1, 0), 1);
    due("P22 the other line", x.whole(0, 0, 0), 2);
    x.read(0, 1, 1, 0, 0, 4);
    due("P22 the long one alone", x.whole(0, 1, 0), 0);
    due("P19 1 2", x.join(1, 2), 1);
    due("P22 24 places", x.whole(0, 0, 0), 3);
    x.read(0, 2, 0, 0, 0, 5);
    due("P22 the last of 24", x.whole(0, 0, 0), 1);
    due("P19 2 3", x.join(2, 3), 1);
    due("P22 25 places", x.whole(0, 0, 0), 0);
    due("P22 a stone within", x.whole(2, 0, 0), STATE);
    due("P22 no stone", x.whole(4, 0, 0), BAD);
    due("P22 stone -1", x.whole(-1, 0, 0), BAD);
    due("P22 no line", x.whole(0, 2, 0), BAD);
    due("P22 bad ahead of state", x.whole(1, 2, 0), BAD);
    due("P22 no formula", x.whole(0, 0, 1), BAD);
    due("P22 formula -1", x.whole(0, 0, -1), BAD);
    due("P22 bad formula ahead of state", x.whole(1, 0, 1), BAD);
    x.part(0);
    due("P8 a second one", Due.formula(x, "abcdefgh(zzzze|zzzzf|zzzzfz)."), 1);
    due("P22 a row that is shorter then", x.whole(1, 0, 1), 2);
    due("P22 and its other part", x.whole(0, 0, 1), 0);
  }
}
