/** The boundaries that 5 PERSONS and promises 28 to 31 name, each by the sentence that names it. */
public final class PersonsLimitsTest extends Asking {
  private static final long MOST = 10460353202L;

  public static void main(String[] args) {
    personsTwelveAtMost();
    stonesOfPersons();
    namesOfUpToThreeLetters();
    namesOfSevenLetters();
    fathersAsNames();
    aDigitZeroAnywhere();
    oneArguments();
    namesAndFathersAlike();
    lessThanSixtyYears();
    bySpansNotYears();
    groupArguments();
    groupsOfTwelve();
    withAllOfThem();
    fatherArguments();
    anotherOneTheLeast();
    fifteenToSixtyAhead();
    nothingWhileTheyClash();
    Due.end();
  }

  // "PERSONS (12) are numbered from 0 as they come." "FULL."
  private static void personsTwelveAtMost() {
    InscribedStones x = made(1, 1, 1, 0);
    for (int i = 0; i < 12; i++) {
      due("P30 not there yet", x.group(i), BAD);
      due("P28 the next number", x.person(1 + i, 0, 0), i);
      due("P30 there now", x.group(i), i);
    }
    due("P28 the 13th", x.person(1, 0, 0), FULL);
    due("P30 the 13th is not there", x.group(12), BAD);
    due("P31 the 13th is not there", x.father(12), BAD);
    due("P29 the 13th is not there", x.one(0, 12), BAD);
    due("P35 twelve", x.count(3), 12);
    due("P35 twelve groups", x.count(7), 12);
    due("P28 bad ahead of full, name", x.person(0, 0, 0), BAD);
    due("P28 bad ahead of full, name", x.person(27, 0, 0), BAD);
    due("P28 bad ahead of full, father", x.person(1, 27, 0), BAD);
    due("P28 bad ahead of full, stone", x.person(1, 0, 1), BAD);
  }

  private static void stonesOfPersons() {
    range("P28 stone", n -> made(2, 1, 1, 0).person(1, 0, n), 0, 1, 0);
    range("P28 stone of twelve", n -> made(12, 1, 1, 0).person(1, 0, n), 0, 11, 0);
    refused("P28 nothing kept", n -> {
      InscribedStones x = made(2, 1, 1, 0);
      x.person(1, 0, n);
      return x.count(3);
    }, 0, 1, 0);
  }

  // "letters 1 .. 26 in base 27 .. BAD: also a NAME that is 0, or a digit 0 within or behind"
  private static void namesOfUpToThreeLetters() {
    for (int number = 0; number < 27 * 27 * 27; number += number < 800 ? 1 : 13) {
      boolean name = number > 0 && Integer.toString(number, 27).indexOf('0') < 0;
      InscribedStones x = made(1, 1, 1, 0);
      due("P28 name " + number, x.person(number, 0, 0), name ? 0 : BAD);
      due("P35 kept or not", x.count(3), name ? 1 : 0);
    }
  }

  // "7 at most"
  private static void namesOfSevenLetters() {
    long power = 1;
    for (int letters = 1; letters <= 7; letters++) {
      power *= 27;
      String word = "z".repeat(letters);
      due("P28 z, " + letters + " times", made(1, 1, 1, 0).person(power - 1, 0, 0), 0);
      due("P28 the same", Due.name(word), power - 1);
      due("P28 one more", made(1, 1, 1, 0).person(power, 0, 0), BAD);
      due("P28 a, " + letters + " times", made(1, 1, 1, 0).person((power - 1) / 26, 0, 0), 0);
      due("P28 one less", made(1, 1, 1, 0).person((power - 1) / 26 - 1, 0, 0), BAD);
    }
    due("P28 the most", MOST, power - 1);
    long[] bad = {
      MOST + 1, MOST + 2, Due.name("aaaaaaaa"), Due.name("zzzzzzzz"), Due.name("aaaaaaaaaaaaa"),
      Long.MAX_VALUE, Long.MIN_VALUE, -1, -28, -MOST, (3L << 32) + 1, (1L << 40) + 1,
    };
    for (long name : bad) {
      due("P28 name " + name, made(1, 1, 1, 0).person(name, 0, 0), BAD);
      due("P28 father " + name, made(1, 1, 1, 0).person(1, name, 0), BAD);
    }
  }

  // "FATHER 0: none told"
  private static void fathersAsNames() {
    for (long father = 0; father < 800; father++) {
      boolean good = Long.toString(father, 27).indexOf('0') < 0 || father == 0;
      due("P28 father " + father, made(1, 1, 1, 0).person(1, father, 0), good ? 0 : BAD);
    }
    due("P28 the longest father", made(1, 1, 1, 0).person(1, MOST, 0), 0);
    due("P28 both the longest", made(1, 1, 1, 0).person(MOST, MOST, 0), 0);
    due("P28 a father and no name", made(1, 1, 1, 0).person(0, 1, 0), BAD);
    due("P28 neither", made(1, 1, 1, 0).person(0, 0, 0), BAD);
  }

  private static void aDigitZeroAnywhere() {
    for (int letters = 2; letters <= 7; letters++) {
      long power = 1;
      for (int digit = 0; digit < letters - 1; digit++) {
        long number = Due.name("m".repeat(letters)) - 13 * power;
        due("P28 digit " + digit + " of " + letters, made(1, 1, 1, 0).person(number, 0, 0), BAD);
        due("P28 of a father", made(1, 1, 1, 0).person(1, number, 0), BAD);
        due("P28 one above", made(1, 1, 1, 0).person(number + power, number + power, 0), 0);
        power *= 27;
      }
    }
  }

  private static InscribedStones persons(long... namesAndFathers) {
    InscribedStones x = made(2, 1, 1, 0);
    for (int i = 0; i < namesAndFathers.length; i += 2) {
      x.person(namesAndFathers[i], namesAndFathers[i + 1], 0);
    }
    return x;
  }

  // "Whether two PERSONS MAY BE ONE: 1, 0. BAD: also a = b."
  private static void oneArguments() {
    InscribedStones x = persons(1, 0, 1, 0, 1, 0);
    range("P29 a", n -> x.one(n, 1), 0, 2, 1);
    range("P29 b", n -> x.one(1, n), 0, 2, 1);
    refused("P29 both", n -> x.one(n, n), 0, 2, BAD);
    for (int i = 0; i < 3; i++) {
      due("P29 a = b", x.one(i, i), BAD);
    }
  }

  // "if their NAMES are alike, their FATHERS are, or one has none told"
  private static void namesAndFathersAlike() {
    long[] fathers = {0, 1, 2, MOST, MOST - 1};
    for (long one : fathers) {
      for (long other : fathers) {
        boolean may = one == other || one == 0 || other == 0;
        due("P29 fathers " + one + ", " + other, persons(5, one, 5, other).one(0, 1), may ? 1 : 0);
        due("P29 other names", persons(5, one, 6, other).one(0, 1), 0);
        due("P29 names of another length", persons(5, one, 5 * 27 + 5, other).one(0, 1), 0);
      }
    }
    due("P29 long names", persons(MOST, 1, MOST, 1).one(0, 1), 1);
    due("P29 long names", persons(MOST, 1, MOST - 1, 1).one(0, 1), 0);
    // Alike in their lowest 32 bits.
    long low = Due.name("aaaaaaa");
    due("P29 far names", persons(low, 0, low + (1L << 32), 0).count(3), 2);
    due("P29 far names", persons(low, 0, low + (1L << 32), 0).one(0, 1), 0);
    due("P29 far fathers", persons(1, low, 1, low + (1L << 32)).one(0, 1), 0);
  }

  // "have years with less than 60 between"
  private static void lessThanSixtyYears() {
    for (int apart = 57; apart <= 62; apart++) {
      for (int wide = 0; wide <= 300; wide += 100) {
        InscribedStones x = made(2, 1, 1, 0);
        x.person(1, 0, 0);
        x.person(1, 0, 1);
        x.years(0, -wide, 0);
        x.years(1, apart, apart + wide);
        due("P29 " + apart + " behind", x.one(0, 1), apart < 60 ? 1 : 0);
        due("P29 " + apart + " ahead", x.one(1, 0), apart < 60 ? 1 : 0);
        due("P30 the second's group", x.group(1), apart < 60 ? 0 : 1);
      }
    }
    InscribedStones x = made(2, 1, 1, 0);
    x.person(1, 0, 0);
    x.person(1, 0, 1);
    x.years(0, -999, -999);
    x.years(1, 999, 999);
    due("P29 the ends of time", x.one(0, 1), 0);
    due("P29 the ends of time", x.one(1, 0), 0);
  }

  private static void bySpansNotYears() {
    InscribedStones x = made(3, 1, 1, 0);
    x.person(1, 0, 0);
    x.person(1, 0, 1);
    x.years(0, 0, 100);
    x.years(1, 100, 200);
    x.bound(2, 0, 0);
    x.bound(1, 2, 0);
    spansOf(x, 100, 100);
    x.loose();
    x.loose();
    x.bound(0, 2, 0);
    x.years(2, -999, 40);
    spansOf(x, 0, 40);
    due("P29 60 between the spans", x.one(0, 1), 0);
    x.years(2, -999, 41);
    due("P29 59 between the spans", x.one(0, 1), 1);
  }

  private static void spansOf(InscribedStones x, int least, int most) {
    due("P26 least", x.span(0, 0), least);
    due("P26 greatest", x.span(0, 1), most);
  }

  private static void groupArguments() {
    InscribedStones x = persons(1, 0, 2, 0, 1, 0);
    refused("P30 person", n -> x.group(n), 0, 2, BAD);
    due("P30 the first", x.group(0), 0);
    due("P30 the last", x.group(2), 0);
    due("P30 asked alone, out of order", x.group(1), 1);
  }

  private static void groupsOfTwelve() {
    InscribedStones x = made(12, 1, 1, 0);
    for (int i = 0; i < 12; i++) {
      x.person(7, 0, i);
      due("P30 all in one", x.group(i), 0);
      due("P35 one group", x.count(7), 1);
    }
    for (int i = 0; i < 12; i++) {
      x.years(i, i * 60, i * 60);
    }
    for (int i = 0; i < 12; i++) {
      due("P30 each alone", x.group(i), i);
    }
    due("P35 twelve groups", x.count(7), 12);
    for (int i = 0; i < 12; i++) {
      x.years(i, i * 59, i * 59);
    }
    for (int i = 0; i < 12; i++) {
      due("P30 each two", x.group(i), i / 2);
    }
    due("P35 six groups", x.count(7), 6);
  }

  // "each comes to the first GROUP with all of which it MAY BE ONE, else it is a new GROUP"
  private static void withAllOfThem() {
    InscribedStones x = persons(1, 5, 1, 6, 1, 0, 1, 6, 1, 5, 1, 7, 1, 0, 2, 5);
    int[] groups = {0, 1, 0, 1, 0, 2, 0, 3};
    for (int i = 0; i < groups.length; i++) {
      due("P30 person " + i, x.group(i), groups[i]);
    }
    due("P35 four", x.count(7), 4);
    // With the last of a group, though not with the first; and with the first, though not the last.
    x = persons(1, 0, 1, 5, 1, 6, 1, 0);
    due("P30 with the first", x.group(1), 0);
    due("P30 not with the last", x.group(2), 1);
    due("P30 with all of the first group", x.group(3), 0);
    x = persons(1, 6, 1, 0, 1, 5, 1, 0);
    due("P30 not with the first", x.group(2), 1);
    due("P35 two", x.count(7), 2);
  }

  private static void fatherArguments() {
    InscribedStones x = persons(1, 0, 2, 1, 3, 2);
    refused("P31 person", n -> x.father(n), 0, 2, BAD);
    due("P31 none told", x.father(0), NONE);
    due("P31 the first", x.father(1), 0);
    due("P31 the last", x.father(2), 1);
  }

  // "The least PERSON (another one) of whose NAME the FATHER of a PERSON is"
  private static void anotherOneTheLeast() {
    InscribedStones x = persons(5, 5);
    due("P31 not himself", x.father(0), NONE);
    x.person(6, 5, 0);
    x.person(5, 5, 0);
    due("P31 another one of that name", x.father(0), 2);
    due("P31 the least", x.father(1), 0);
    due("P31 the least", x.father(2), 0);
    x = made(12, 1, 1, 0);
    for (int i = 0; i < 12; i++) {
      x.person(9, 9, i);
      x.years(i, i == 7 || i == 9 ? 0 : 20, i == 7 || i == 9 ? 0 : 20);
    }
    for (int i = 0; i < 12; i++) {
      due("P31 the least that is ahead", x.father(i), i == 7 || i == 9 ? NONE : 7);
    }
    for (int place = 1; place < 12; place++) {
      InscribedStones y = made(1, 1, 1, 0);
      for (int i = 0; i < 12; i++) {
        y.person(i == place ? 2 : 1, i == place ? 1 : 2, 0);
      }
      due("P31 person " + place + " alone", y.father(0), place);
      due("P31 of the last", y.father(11), place == 11 ? 0 : place);
      due("P31 of that one", y.father(place), 0);
    }
    due("P31 none of that name", persons(5, 6, 7, 0).father(0), NONE);
    due("P31 none told, none of no name", persons(5, 0, 6, 0).father(0), NONE);
  }

  // "some year of the SPAN of that one's STONE is 15 .. 60 ahead of some of its own"
  private static void fifteenToSixtyAhead() {
    for (int ahead = -70; ahead <= 70; ahead++) {
      InscribedStones x = made(2, 1, 1, 0);
      x.person(1, 2, 0);
      x.person(2, 0, 1);
      x.years(0, 100, 100);
      x.years(1, 100 - ahead, 100 - ahead);
      boolean may = ahead >= 15 && ahead <= 60;
      due("P31 " + ahead + " ahead", x.father(0), may ? 1 : NONE);
      // Up to ten years later, either of them.
      x.years(0, 100, 110);
      due("P31 " + ahead + " ahead, or more", x.father(0), ahead >= 5 && ahead <= 60 ? 1 : NONE);
      x.years(0, 100, 100);
      x.years(1, 100 - ahead, 110 - ahead);
      due("P31 " + ahead + " ahead, or less", x.father(0), ahead >= 15 && ahead <= 70 ? 1 : NONE);
    }
  }

  // "without SPANS, if they CLASH, they may not"
  private static void nothingWhileTheyClash() {
    InscribedStones x = made(4, 1, 1, 0);
    x.person(1, 2, 0);
    x.person(1, 2, 0);
    x.person(2, 0, 1);
    x.bound(2, 3, 1);
    due("P29 no clash", x.one(0, 1), 1);
    due("P31 no clash", x.father(0), 2);
    due("P35 two groups", x.count(7), 2);
    x.bound(3, 2, 0);
    due("P29 a clash of other stones", x.one(0, 1), 0);
    due("P31 a clash of other stones", x.father(0), NONE);
    due("P30 each alone", x.group(1), 1);
    due("P35 three groups", x.count(7), 3);
    due("P29 bad though they clash", x.one(0, 0), BAD);
    due("P29 bad though they clash", x.one(0, 3), BAD);
    due("P30 bad though they clash", x.group(3), BAD);
    due("P31 bad though they clash", x.father(3), BAD);
    due("P28 a person all the same", x.person(1, 2, 0), 3);
    due("P30 a new group", x.group(3), 3);
    x.loose();
    due("P30 together then", x.group(3), 0);
  }
}
