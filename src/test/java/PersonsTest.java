/** Promises 28 to 31: persons, who may be one, groups and fathers. */
public final class PersonsTest extends Asking {
  public static void main(String[] args) {
    telling();
    names();
    mayBeOne();
    sixtyYears();
    withoutSpans();
    groups();
    groupsThatMove();
    fathers();
    fathersByYears();
    Due.end();
  }

  private static InscribedStones stones(int n) {
    InscribedStones x = new InscribedStones();
    for (int i = 0; i < n; i++) {
      x.stone(1, 1);
    }
    return x;
  }

  private static int put(InscribedStones x, String name, String father, int stone) {
    return x.person(Due.name(name), Due.name(father), stone);
  }

  private static void telling() {
    InscribedStones x = stones(1);
    due("P28 no stone", put(x, "a", "", 1), BAD);
    due("P28 stone -1", put(x, "a", "", -1), BAD);
    for (int i = 0; i < 12; i++) {
      due("P28 person", put(x, "a", "b", 0), i);
    }
    due("P28 a 13th", put(x, "a", "b", 0), FULL);
    due("P28 a bad 13th", put(x, "", "b", 0), BAD);
    due("P35 twelve", x.count(3), 12);
  }

  private static void names() {
    InscribedStones x = stones(1);
    long most = Due.name("zzzzzzz");
    due("P28 no name", x.person(0, 1, 0), BAD);
    due("P28 name -1", x.person(-1, 0, 0), BAD);
    due("P28 name least", x.person(Long.MIN_VALUE, 0, 0), BAD);
    due("P28 name most", x.person(Long.MAX_VALUE, 0, 0), BAD);
    due("P28 a digit 0 behind", x.person(27, 0, 0), BAD);
    due("P28 a digit 0 behind", x.person(27 * 27 + 27, 0, 0), BAD);
    due("P28 a digit 0 within", x.person(27 * 27 + 1, 0, 0), BAD);
    due("P28 eight letters", x.person(Due.name("aaaaaaaa"), 0, 0), BAD);
    due("P28 eight letters", x.person(most + 28, 0, 0), BAD);
    due("P28 one above the most", x.person(most + 1, 0, 0), BAD);
    due("P28 father -1", x.person(1, -1, 0), BAD);
    due("P28 father's digit 0", x.person(1, 27, 0), BAD);
    due("P28 father's digit 0 within", x.person(1, 730, 0), BAD);
    due("P28 father of eight letters", x.person(1, Due.name("aaaaaaaa"), 0), BAD);
    due("P28 father most", x.person(1, Long.MAX_VALUE, 0), BAD);
    due("P35 none", x.count(3), 0);
    due("P28 a", x.person(1, 0, 0), 0);
    due("P28 z", x.person(26, 26, 0), 1);
    due("P28 seven letters", x.person(most, most, 0), 2);
    due("P28 seven letters", put(x, "aaaaaaa", "abcdefg", 0), 3);
  }

  private static void mayBeOne() {
    InscribedStones x = stones(1);
    put(x, "abc", "", 0);
    put(x, "abc", "x", 0);
    put(x, "abc", "y", 0);
    put(x, "abd", "x", 0);
    put(x, "abc", "x", 0);
    due("P29 none told", x.one(0, 1), 1);
    due("P29 none told", x.one(1, 0), 1);
    due("P29 other fathers", x.one(1, 2), 0);
    due("P29 other names", x.one(1, 3), 0);
    due("P29 alike", x.one(1, 4), 1);
    due("P29 a = b", x.one(1, 1), BAD);
    due("P29 no person", x.one(0, 5), BAD);
    due("P29 no person", x.one(5, 0), BAD);
    due("P29 person -1", x.one(-1, 0), BAD);
    due("P29 person -1", x.one(0, -1), BAD);
  }

  private static void sixtyYears() {
    InscribedStones x = stones(2);
    put(x, "a", "", 0);
    put(x, "a", "", 1);
    x.years(0, 0, 100);
    x.years(1, 159, 300);
    due("P29 59 between", x.one(0, 1), 1);
    due("P29 59 between", x.one(1, 0), 1);
    x.years(1, 160, 300);
    due("P29 60 between", x.one(0, 1), 0);
    due("P29 60 between", x.one(1, 0), 0);
    x.years(1, -300, -59);
    due("P29 59 ahead", x.one(0, 1), 1);
    x.years(1, -300, -60);
    due("P29 60 ahead", x.one(0, 1), 0);
    due("P29 60 ahead", x.one(1, 0), 0);
    x.years(1, -999, 999);
    due("P29 all years", x.one(0, 1), 1);
    x.bound(0, 1, 60);
    due("P29 some years are near, though none that the bound lets", x.one(0, 1), 1);
    x.years(0, 50, 60);
    due("P29 by spans", x.one(0, 1), 1);
    x.years(0, 50, 50);
    due("P29 by spans 60 between", x.one(0, 1), 0);
  }

  private static void withoutSpans() {
    InscribedStones x = stones(3);
    put(x, "a", "", 0);
    put(x, "a", "", 0);
    put(x, "b", "a", 1);
    x.years(0, 0, 10);
    x.years(1, 30, 40);
    due("P29 may be", x.one(0, 1), 1);
    due("P30 together", x.group(1), 0);
    due("P31 father", x.father(2), 0);
    x.bound(1, 2, 100);
    x.bound(2, 1, 100);
    due("P29 they clash", x.one(0, 1), 0);
    due("P30 they clash", x.group(1), 1);
    due("P35 groups", x.count(7), 3);
    due("P31 they clash", x.father(2), NONE);
    x.loose();
    due("P29 no more", x.one(0, 1), 1);
    due("P31 no more", x.father(2), 0);
    due("P35 groups", x.count(7), 2);
  }

  private static void groups() {
    InscribedStones x = stones(1);
    due("P30 none", x.group(0), BAD);
    due("P35 none", x.count(7), 0);
    put(x, "a", "x", 0);
    put(x, "b", "", 0);
    put(x, "a", "y", 0);
    put(x, "a", "", 0);
    put(x, "a", "y", 0);
    put(x, "b", "x", 0);
    put(x, "b", "y", 0);
    due("P30 the first", x.group(0), 0);
    due("P30 another name", x.group(1), 1);
    due("P30 another father", x.group(2), 2);
    due("P30 the first of both", x.group(3), 0);
    due("P30 not with x", x.group(4), 2);
    due("P30 b", x.group(5), 1);
    due("P30 not with all of them", x.group(6), 3);
    due("P35 groups", x.count(7), 4);
    due("P30 no person", x.group(7), BAD);
    due("P30 person -1", x.group(-1), BAD);
  }

  private static void groupsThatMove() {
    InscribedStones x = stones(3);
    put(x, "a", "", 0);
    put(x, "a", "", 1);
    put(x, "a", "", 2);
    due("P30 all", x.group(2), 0);
    x.years(0, 0, 0);
    x.years(1, 50, 50);
    x.years(2, 100, 100);
    due("P30 near", x.group(1), 0);
    due("P30 near to one alone", x.group(2), 1);
    due("P29 though it may be that one", x.one(1, 2), 1);
    due("P35 groups", x.count(7), 2);
    x.years(1, 60, 60);
    due("P30 apart", x.group(1), 1);
    due("P30 near to that one", x.group(2), 1);
    x.years(2, 0, 0);
    due("P30 the first", x.group(2), 0);
  }

  private static void fathers() {
    InscribedStones x = stones(3);
    x.years(0, 0, 0);
    x.years(1, 30, 30);
    x.years(2, -30, -30);
    put(x, "a", "", 0);
    put(x, "b", "a", 1);
    put(x, "a", "b", 0);
    due("P31 none told", x.father(0), NONE);
    due("P31 the least one", x.father(1), 0);
    due("P31 not later ones", x.father(2), NONE);
    due("P28 a b ahead", put(x, "b", "", 2), 3);
    due("P31 that one", x.father(2), 3);
    due("P31 no person", x.father(4), BAD);
    due("P31 person -1", x.father(-1), BAD);
    // No one is the father of himself, though his stone has years enough.
    x = stones(1);
    put(x, "a", "a", 0);
    due("P31 not himself", x.father(0), NONE);
    put(x, "a", "a", 0);
    due("P31 another one", x.father(0), 1);
    due("P31 the least one", x.father(1), 0);
  }

  private static void fathersByYears() {
    InscribedStones x = stones(2);
    put(x, "son", "sire", 0);
    put(x, "sire", "", 1);
    int[][] cases = {
      {0, 0, -15, -15, 1}, {0, 0, -14, -14, NONE}, {0, 0, -60, -60, 1}, {0, 0, -61, -61, NONE},
      {0, 0, 15, 15, NONE}, {0, 0, 60, 60, NONE}, {0, 0, 0, 0, NONE}, {0, 5, -10, -10, 1},
      {0, 4, -10, -10, NONE}, {0, 5, -70, -60, 1}, {0, 5, -70, -61, NONE}, {0, 20, 5, 40, 1},
      {0, 20, 6, 40, NONE}, {0, 100, 0, 100, 1}, {0, 100, -200, 200, 1}, {0, 100, -300, -61, NONE},
      {0, 100, -300, -60, 1}, {0, 100, 85, 200, 1}, {0, 100, 86, 200, NONE},
    };
    for (int[] c : cases) {
      x.years(0, c[0], c[1]);
      x.years(1, c[2], c[3]);
      due("P31 " + c[0] + ".." + c[1] + " after " + c[2] + ".." + c[3], x.father(0), c[4]);
    }
    x.years(0, -999, 999);
    x.years(1, 0, 0);
    due("P31 some years", x.father(0), 1);
    x.bound(0, 1, -14);
    due("P31 by spans", x.father(0), NONE);
    x.loose();
    x.bound(0, 1, -15);
    due("P31 by spans", x.father(0), 1);
  }
}
