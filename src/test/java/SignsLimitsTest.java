/** The boundaries that 1 SIGNS and promises 1 to 6 name, each by the sentence that names it. */
public final class SignsLimitsTest extends Asking {
  public static void main(String[] args) {
    nothingAtAll();
    stonesTwelveAtMost();
    linesAndPlaces();
    eachSizeHasItsOwnEnds();
    handsSixAtMost();
    everyPairOfRanks();
    ofLikeRanksTheFirst();
    readArguments();
    everyPlaceOfEveryHand();
    oneReadingIsOfOnePlace();
    lettersOfEachKind();
    halvesHaveTwoAtLeast();
    goneAndErasedTakeAnyNumber();
    unreadIsAsGone();
    forgetArguments();
    signArguments();
    howManyReadItOtherwise();
    otherwiseByKindOrMay();
    Due.end();
  }

  // "A new object: Nothing at all."
  private static void nothingAtAll() {
    InscribedStones x = new InscribedStones();
    due("P1 read", x.read(0, 0, 0, 0, 3, 0), BAD);
    due("P1 forget", x.forget(0, 0, 0, 0), BAD);
    due("P1 text", x.text(0, 0, 0), BAD);
    due("P1 ways", x.ways(0, 0, 0), BAD);
    due("P1 way", x.way(0, 0, 0, 0), BAD);
    due("P1 carried", x.carried(0, 0, 0, 0), BAD);
    due("P1 fits", x.fits(0, 0), BAD);
    due("P1 edge", x.edge(0, 0, 0, 0), BAD);
    due("P1 room", x.room(0, 1), BAD);
    due("P1 best", x.best(0, 0), BAD);
    due("P1 join", x.join(0, 1), BAD);
    due("P1 part", x.part(0), BAD);
    due("P1 joined", x.joined(0, 0), BAD);
    due("P1 whole", x.whole(0, 0, 0), BAD);
    due("P1 years", x.years(0, 0, 0), BAD);
    due("P1 bound", x.bound(0, 1, 0), BAD);
    due("P1 person", x.person(1, 0, 0), BAD);
    due("P1 one", x.one(0, 1), BAD);
    due("P1 father", x.father(0), BAD);
    due("P1 print", x.print(0, 0, NONE), BAD);
    due("P1 printed", x.printed(0, 0, NONE, 0), BAD);
    due("P1 back", x.back(0, 0, 0), BAD);
    due("P1 lay", x.lay(0, 0, 0, 0, 0), BAD);
    due("P1 taken", x.taken(0, 0, 0, 0, 0), BAD);
    due("P1 tolerance is 1 at first", x.tolerance(1), 1);
  }

  // "STONES (12 at most) are numbered from 0 as they come."
  private static void stonesTwelveAtMost() {
    InscribedStones x = new InscribedStones();
    for (int i = 0; i < 12; i++) {
      due("P2 not there yet " + i, x.sign(i, 0, 0, 0), BAD);
      due("P2 the next number " + i, x.stone(1, 1), i);
      due("P2 there now " + i, x.sign(i, 0, 0, 0), 3);
    }
    due("P2 the 13th", x.stone(4, 24), FULL);
    due("P2 the 13th is not there", x.sign(12, 0, 0, 0), BAD);
    due("P2 the 12th is as it was", x.sign(11, 0, 1, 0), BAD);
    due("P2 the 12th is as it was", x.sign(11, 1, 0, 0), BAD);
    due("P2 twelve", x.count(0), 12);
  }

  // "A STONE has 1 .. 4 LINES of 1 .. 24 PLACES."
  private static void linesAndPlaces() {
    range("P2 lines", n -> new InscribedStones().stone(n, 1), 1, 4, 0);
    range("P2 lines of 24 places", n -> new InscribedStones().stone(n, 24), 1, 4, 0);
    range("P2 places", n -> new InscribedStones().stone(1, n), 1, 24, 0);
    range("P2 places of 4 lines", n -> new InscribedStones().stone(4, n), 1, 24, 0);
    InscribedStones x = new InscribedStones();
    for (int n : new int[] {0, -1, 25, Integer.MIN_VALUE, Integer.MAX_VALUE}) {
      x.stone(n, 1);
      x.stone(1, n);
      x.stone(n, n);
    }
    x.stone(5, 1);
    due("P2 nothing kept", x.count(0), 0);
    due("P2 no number lost", x.stone(1, 1), 0);
  }

  private static void eachSizeHasItsOwnEnds() {
    for (int lines = 1; lines <= 4; lines++) {
      for (int places = 1; places <= 24; places++) {
        InscribedStones x = new InscribedStones();
        x.stone(lines, places);
        String what = "P2 " + lines + " by " + places;
        due(what + ", the last place", x.sign(0, lines - 1, places - 1, 0), 3);
        due(what + ", one line behind", x.sign(0, lines, places - 1, 0), BAD);
        due(what + ", one place behind", x.sign(0, lines - 1, places, 0), BAD);
        due(what + ", printed", x.print(0, lines - 1, NONE), places);
      }
    }
  }

  // "HANDS (6)." "HANDS have a RANK 0 .. 9."
  private static void handsSixAtMost() {
    InscribedStones x = made(1, 1, 1, 0);
    for (int i = 0; i < 6; i++) {
      due("P3 not there yet " + i, x.read(i, 0, 0, 0, 0, i), BAD);
      due("P3 the next number " + i, x.hand(9 - i), i);
      due("P3 there now " + i, x.read(i, 0, 0, 0, 0, i), 1);
    }
    due("P3 the seventh", x.hand(9), FULL);
    due("P3 the seventh is not there", x.read(6, 0, 0, 0, 0, 6), BAD);
    due("P3 the sixth keeps its rank", x.sign(0, 0, 0, 2), 0);
    due("P3 six", x.count(1), 6);
    range("P3 rank", rank -> new InscribedStones().hand(rank), 0, 9, 0);
    refused("P3 nothing kept", rank -> {
      InscribedStones y = new InscribedStones();
      y.hand(rank);
      return y.count(1);
    }, 0, 9, 0);
  }

  // "THE READING of a PLACE is that of the HAND with the greatest RANK of those that read it."
  private static void everyPairOfRanks() {
    for (int one = 0; one <= 9; one++) {
      for (int other = 0; other <= 9; other++) {
        InscribedStones x = made(1, 1, 1, 0);
        x.hand(one);
        x.hand(other);
        x.read(1, 0, 0, 0, 0, 1);
        x.read(0, 0, 0, 0, 0, 0);
        int leads = other > one ? 1 : 0;
        due("P6 ranks " + one + " and " + other, x.sign(0, 0, 0, 2), leads);
        due("P6 its letter", x.sign(0, 0, 0, 1), 1 << leads);
      }
    }
  }

  // "Of like ones the one that came first; GONE, if none did."
  private static void ofLikeRanksTheFirst() {
    InscribedStones x = made(1, 1, 1, 6);
    for (int hand = 5; hand >= 0; hand--) {
      x.read(hand, 0, 0, 0, 0, hand);
      due("P6 the first that read it", x.sign(0, 0, 0, 2), hand);
    }
    for (int hand = 0; hand < 5; hand++) {
      x.forget(hand, 0, 0, 0);
      due("P6 the first of the others", x.sign(0, 0, 0, 2), hand + 1);
    }
    x.forget(5, 0, 0, 0);
    due("P6 none did", x.sign(0, 0, 0, 2), NONE);
    due("P6 gone", x.sign(0, 0, 0, 0), 3);
    due("P6 any", x.sign(0, 0, 0, 1), ANY);
  }

  // "A HAND reads a PLACE as a SIGN of a KIND .. BAD."
  private static void readArguments() {
    range("P4 hand", n -> made(2, 3, 4, 2).read(n, 0, 0, 0, 0, 0), 0, 1, 1);
    range("P4 stone", n -> made(2, 3, 4, 2).read(0, n, 0, 0, 0, 0), 0, 1, 1);
    range("P4 line", n -> made(2, 3, 4, 2).read(0, 0, n, 0, 0, 0), 0, 2, 1);
    range("P4 place", n -> made(2, 3, 4, 2).read(0, 0, 0, n, 0, 0), 0, 3, 1);
    range("P4 kind", n -> made(2, 3, 4, 2).read(0, 0, 0, 0, n, 3), 0, 5, 1);
    range("P4 the last hand's", n -> made(12, 4, 24, 6).read(5, 11, 3, n, 0, 0), 0, 23, 1);
    range("P4 the last place's hand", n -> made(12, 4, 24, 6).read(n, 11, 3, 23, 0, 0), 0, 5, 1);
    range("P4 the last place's stone", n -> made(12, 4, 24, 6).read(5, n, 3, 23, 0, 0), 0, 11, 1);
    range("P4 the last place's line", n -> made(12, 4, 24, 6).read(5, 11, n, 23, 0, 0), 0, 3, 1);
  }

  /** The letter that a line of a hand is laid with at a place, another one than its neighbours have. */
  private static int laidLetter(int hand, int stone, int line, int place) {
    return (laidFrom(hand, stone, line) + place) * 11 % 26;
  }

  private static int laidFrom(int hand, int stone, int line) {
    return (hand * 48 + stone * 4 + line) * 5 % 17;
  }

  // "What stands at a PLACE, as a HAND reads it": all 6 hands, 12 stones, 4 lines and 24 places.
  private static void everyPlaceOfEveryHand() {
    for (int asked = 0; asked < 6; asked++) {
      InscribedStones x = made(12, 4, 24, 6);
      x.tray(0, 40);
      for (int i = 0; i < 40; i++) {
        x.cell(0, i, 'a' + i * 11 % 26);
      }
      for (int i = 0; i < 288; i++) {
        x.lay(i / 48, i / 4 % 12, i % 4, 0, laidFrom(i / 48, i / 4 % 12, i % 4));
      }
      for (int i = 0; i < 96; i++) {
        int stone = i / 8;
        int line = i / 2 % 4;
        int place = i % 2 * 23;
        int letter = laidLetter(asked, stone, line, place);
        String what = "P4 hand " + asked + ", " + stone + ", " + line + ", " + place;
        due(what, x.taken(asked, stone, line, place, 0), 1 << letter);
      }
    }
  }

  private static void oneReadingIsOfOnePlace() {
    int[] ends = {0, 5, 0, 11, 0, 3, 0, 23};
    for (int i = 0; i < 16; i++) {
      InscribedStones x = made(12, 4, 24, 6);
      due("P4 at an end", x.read(ends[i & 1], ends[2 + (i >> 1 & 1)], ends[4 + (i >> 2 & 1)], ends[6 + (i >> 3)], 0, 8), 1);
      for (int j = 0; j < 16; j++) {
        int taken = x.taken(ends[j & 1], ends[2 + (j >> 1 & 1)], ends[4 + (j >> 2 & 1)], ends[6 + (j >> 3)], 0);
        due("P4 end " + i + " at end " + j, taken, i == j ? 1 << 8 : -11);
      }
    }
  }

  // "SIGN, SURE, ADDED: v 0 .. 25 a letter, 26 the blank."
  private static void lettersOfEachKind() {
    for (int kind : new int[] {0, 1, 5}) {
      range("P4 v of kind " + kind, v -> made(1, 1, 1, 1).read(0, 0, 0, 0, kind, v), 0, 26, 1);
      for (int v = 0; v <= 26; v++) {
        InscribedStones x = made(1, 1, 1, 1);
        due("P4 kind " + kind + " of " + v, x.read(0, 0, 0, 0, kind, v), 1);
        due("P6 its kind", x.sign(0, 0, 0, 0), kind);
        due("P6 its may", x.sign(0, 0, 0, 1), 1 << v);
      }
      refused("P4 nothing read by kind " + kind, v -> {
        InscribedStones x = made(1, 1, 1, 1);
        x.read(0, 0, 0, 0, kind, v);
        return x.sign(0, 0, 0, 2);
      }, 0, 26, NONE);
    }
  }

  // "HALF: a set of letters: bits 0 .. 25 a .. z, bit 26 the blank; two at least."
  private static void halvesHaveTwoAtLeast() {
    for (int bit = 0; bit < 32; bit++) {
      due("P4 bit " + bit + " alone", made(1, 1, 1, 1).read(0, 0, 0, 0, 2, 1 << bit), BAD);
      for (int other = 0; other < bit; other++) {
        InscribedStones x = made(1, 1, 1, 1);
        int set = 1 << bit | 1 << other;
        boolean good = bit <= 26;
        due("P4 bits " + other + ", " + bit, x.read(0, 0, 0, 0, 2, set), good ? 1 : BAD);
        due("P6 their may", x.sign(0, 0, 0, 1), good ? set : ANY);
      }
    }
    due("P4 an empty set", made(1, 1, 1, 1).read(0, 0, 0, 0, 2, 0), BAD);
    due("P4 all 27", made(1, 1, 1, 1).read(0, 0, 0, 0, 2, ANY), 1);
    due("P4 one above all 27", made(1, 1, 1, 1).read(0, 0, 0, 0, 2, ANY + 1), BAD);
    due("P4 28 letters", made(1, 1, 1, 1).read(0, 0, 0, 0, 2, 2 * ANY + 1), BAD);
    due("P4 all bits", made(1, 1, 1, 1).read(0, 0, 0, 0, 2, -1), BAD);
    due("P4 the sign's bit and all", made(1, 1, 1, 1).read(0, 0, 0, 0, 2, Integer.MIN_VALUE | ANY), BAD);
  }

  // "GONE, ERASED: v does not matter."
  private static void goneAndErasedTakeAnyNumber() {
    int[] numbers = {0, 1, 26, 27, -1, ANY, ANY + 1, Integer.MIN_VALUE, Integer.MAX_VALUE};
    for (int kind = 3; kind <= 4; kind++) {
      for (int v : numbers) {
        InscribedStones x = made(1, 1, 1, 1);
        due("P4 kind " + kind + " of " + v, x.read(0, 0, 0, 0, kind, v), 1);
        due("P6 its kind", x.sign(0, 0, 0, 0), kind);
        due("P6 its may", x.sign(0, 0, 0, 1), ANY);
        due("P6 its hand", x.sign(0, 0, 0, 2), 0);
      }
    }
  }

  // "A PLACE that a HAND has not read is as GONE."
  private static void unreadIsAsGone() {
    InscribedStones x = made(1, 1, 2, 1);
    Due.formula(x, "a|bc|z.");
    due("P6 unread kind", x.sign(0, 0, 0, 0), 3);
    due("P6 unread may, all 27", x.sign(0, 0, 0, 1), 134217727);
    due("P6 unread hand", x.sign(0, 0, 0, 2), NONE);
    due("P6 unread, none otherwise", x.sign(0, 0, 0, 3), 0);
    due("P11 unread lets all", x.ways(0, 0, 0), 3);
    x.read(0, 0, 0, 0, 3, 0);
    due("P11 so does gone", x.ways(0, 0, 0), 3);
    same("P32 printed alike", Due.printed(x, 0, 0, NONE), "--");
  }

  // "A HAND has not read it any more: 1; 0: it had not. BAD."
  private static void forgetArguments() {
    range("P5 hand", n -> made(2, 3, 4, 2).forget(n, 0, 0, 0), 0, 1, 0);
    range("P5 stone", n -> made(2, 3, 4, 2).forget(0, n, 0, 0), 0, 1, 0);
    range("P5 line", n -> made(2, 3, 4, 2).forget(0, 0, n, 0), 0, 2, 0);
    range("P5 place", n -> made(2, 3, 4, 2).forget(0, 0, 0, n), 0, 3, 0);
    InscribedStones x = made(2, 2, 2, 2);
    for (int i = 0; i < 16; i++) {
      x.read(i & 1, i >> 1 & 1, i >> 2 & 1, i >> 3, 4, 0);
    }
    due("P5 it had", x.forget(1, 0, 1, 0), 1);
    due("P5 it had not", x.forget(1, 0, 1, 0), 0);
    for (int i = 0; i < 16; i++) {
      boolean forgotten = i == 5;
      int taken = x.taken(i & 1, i >> 1 & 1, i >> 2 & 1, i >> 3, 4);
      due("P5 of all places that one alone, " + i, taken, forgotten ? -11 : ANY);
    }
  }

  // "Of THE READING of a PLACE: 0 KIND, 1 MAY, 2 the HAND, 3 how many .. BAD."
  private static void signArguments() {
    range("P6 stone", n -> made(2, 3, 4, 2).sign(n, 0, 0, 0), 0, 1, 3);
    range("P6 line", n -> made(2, 3, 4, 2).sign(0, n, 0, 0), 0, 2, 3);
    range("P6 place", n -> made(2, 3, 4, 2).sign(0, 0, n, 0), 0, 3, 3);
    refused("P6 what", n -> made(2, 3, 4, 2).sign(0, 0, 0, n), 0, 3, BAD);
    due("P6 what 0", made(1, 1, 1, 0).sign(0, 0, 0, 0), 3);
    due("P6 what 3", made(1, 1, 1, 0).sign(0, 0, 0, 3), 0);
  }

  private static void howManyReadItOtherwise() {
    InscribedStones x = made(1, 1, 2, 6);
    for (int hand = 0; hand < 6; hand++) {
      x.read(hand, 0, 0, 0, 0, hand);
      due("P6 otherwise than the first", x.sign(0, 0, 0, 3), hand);
    }
    for (int hand = 1; hand < 6; hand++) {
      x.read(hand, 0, 0, 0, 0, 0);
      due("P6 and as it", x.sign(0, 0, 0, 3), 5 - hand);
    }
    due("P6 of another place", x.sign(0, 0, 1, 3), 0);
  }

  // "(another KIND, or another MAY)"
  private static void otherwiseByKindOrMay() {
    int[][] readings = {{0, 7}, {0, 8}, {1, 7}, {1, 26}, {5, 7}, {5, 0}, {2, 3}, {2, 7}, {2, ANY}, {3, 0}, {4, 0}};
    for (int i = 0; i < readings.length; i++) {
      for (int j = 0; j < readings.length; j++) {
        InscribedStones x = made(1, 1, 1, 2);
        x.read(0, 0, 0, 0, readings[i][0], readings[i][1]);
        x.read(1, 0, 0, 0, readings[j][0], readings[j][1]);
        due("P6 reading " + i + " beside " + j, x.sign(0, 0, 0, 3), i == j ? 0 : 1);
      }
    }
    InscribedStones x = made(1, 1, 1, 2);
    x.read(0, 0, 0, 0, 3, 5);
    x.read(1, 0, 0, 0, 3, 6);
    due("P6 v of no matter", x.sign(0, 0, 0, 3), 0);
    x.forget(1, 0, 0, 0);
    due("P6 not read is not otherwise", x.sign(0, 0, 0, 3), 0);
  }
}
