import java.util.ArrayList;
import java.util.List;
import java.util.function.ToIntFunction;

/**
 * "Refusals, the first that the call's words name; they change nothing." Each refused call is made
 * on an object, and then the object answers all that can be asked as one does that never heard it.
 */
public final class RefusalsTest extends Asking {
  private static final int LEFT = 0;
  private static final int RIGHT = 1;
  private static final int ALL_CALLS = 512;
  // Calls that a state is made with, at most.
  private static final int MADE_WITH = 110;
  private static final int LEAST = Integer.MIN_VALUE;
  private static final int MOST = Integer.MAX_VALUE;
  // Stands for an answer that is of no matter.
  private static final int ANSWER = 77777;

  public static void main(String[] args) {
    signsAreRefused();
    formulasAreRefused();
    edgesAreRefused();
    yearsAreRefused();
    personsAreRefused();
    printedAreRefused();
    hostIsRefused();
    fullIsRefused();
    twoOfMost();
    askingChangesNothing();
    aChangeIsSeen();
    Due.end();
  }

  // ---- an object in the midst of its use, and all that can be asked of it

  private static InscribedStones some() {
    InscribedStones x = new InscribedStones();
    x.stone(2, 3);
    x.stone(2, 4);
    x.stone(2, 2);
    x.stone(1, 6);
    x.hand(3);
    x.hand(7);
    x.hand(3);
    x.read(0, 0, 0, 0, 0, 0);
    x.read(1, 0, 0, 0, 5, 1);
    x.read(0, 0, 0, 1, 2, 6);
    x.read(2, 0, 1, 2, 4, 0);
    x.read(0, 1, 1, 3, 1, 26);
    x.read(1, 3, 0, 5, 3, 0);
    Due.formula(x, "ab [c].");
    Due.formula(x, "(a|b)[d].");
    x.tolerance(2);
    x.edge(0, RIGHT, 0, 4);
    x.edge(1, LEFT, 0, 5);
    x.edge(1, RIGHT, 1, 2);
    x.edge(2, LEFT, 1, 2);
    x.join(0, 1);
    x.years(0, 10, 300);
    x.years(1, -999, 500);
    x.bound(0, 1, 50);
    x.bound(1, 2, -20);
    x.bound(2, 3, 7);
    x.person(1, 2, 0);
    x.person(1, 0, 3);
    x.person(2, 0, 1);
    x.person(1, 3, 2);
    x.tray(0, 5);
    x.tray(1, 0);
    x.tray(3, 7);
    x.cell(0, 0, 'b');
    x.cell(0, 4, 'c');
    x.cell(3, 6, 32);
    Due.feed(x, "ab-");
    return x;
  }

  private static List<Integer> allOf(InscribedStones x) {
    List<Integer> answers = new ArrayList<>();
    for (int what = 0; what <= 8; what++) {
      answers.add(x.count(what));
    }
    places(x, answers);
    texts(x, answers);
    pairs(x, answers);
    // What can be asked alone by telling it anew comes last.
    laid(x, answers);
    toldAnew(x, answers);
    due("within the calls that are promised", answers.size() + MADE_WITH <= ALL_CALLS ? 1 : 0, 1);
    return answers;
  }

  private static void places(InscribedStones x, List<Integer> answers) {
    int[] lines = {2, 2, 2, 1};
    int[] places = {3, 4, 2, 6};
    for (int stone = 0; stone < 4; stone++) {
      for (int line = 0; line < lines[stone]; line++) {
        answers.add(x.print(stone, line, 0));
        answers.add(x.ways(stone, line, 1));
        answers.add(x.whole(stone, line, 0));
        for (int place = 0; place < places[stone]; place++) {
          for (int what = 0; what <= 3; what++) {
            answers.add(x.sign(stone, line, place, what));
          }
          for (int hand = 0; hand < 3; hand++) {
            answers.add(x.taken(hand, stone, line, place, 0));
          }
        }
      }
    }
  }

  private static void texts(InscribedStones x, List<Integer> answers) {
    for (int formula = 0; formula < 2; formula++) {
      answers.add(x.texts(formula));
      for (int i = 0; i < 4; i++) {
        for (int k = 0; k < 4; k++) {
          answers.add(x.text(formula, i, k));
        }
      }
    }
  }

  private static void pairs(InscribedStones x, List<Integer> answers) {
    answers.add(x.clash());
    for (int a = 0; a < 4; a++) {
      for (int side = 0; side < 2; side++) {
        answers.add(x.joined(a, side));
        answers.add(x.best(a, side));
        answers.add(x.span(a, side));
      }
      answers.add(x.group(a));
      answers.add(x.father(a));
      for (int b = 0; b < a; b++) {
        answers.add(x.room(a, b));
        answers.add(x.room(b, a));
        answers.add(x.one(a, b));
      }
    }
  }

  private static void laid(InscribedStones x, List<Integer> answers) {
    for (int tray = 0; tray < 4; tray++) {
      for (int from = 0; from < 3; from++) {
        answers.add(x.lay(0, 3, 0, tray, from));
        answers.add(x.taken(0, 3, 0, 0, 0));
        answers.add(x.taken(0, 3, 0, 4, 0));
      }
    }
    answers.add(x.back(0, 0, 0));
    answers.add(x.taken(0, 0, 0, 0, 0));
    answers.add(x.taken(0, 0, 0, 1, 0));
  }

  private static void toldAnew(InscribedStones x, List<Integer> answers) {
    for (int stone = 0; stone < 4; stone++) {
      for (int side = 0; side < 2; side++) {
        answers.add(x.edge(stone, side, 0, 0));
        answers.add(x.edge(stone, side, 1, 0));
      }
    }
    answers.add(x.tolerance(0));
    for (int i = 0; i < 4; i++) {
      answers.add(x.loose());
      answers.add(x.span(1, 0));
      answers.add(x.span(3, 0));
    }
    answers.add(x.stone(1, 1));
    answers.add(x.hand(0));
    answers.add(x.person(4, 0, 0));
    answers.add(x.feed(1, 'c'));
    answers.add(x.feed(1, '.'));
    answers.add(x.formula());
  }

  private static final List<Integer> UNTOUCHED = allOf(some());

  private static void changesNothing(String call, ToIntFunction<InscribedStones> asked, int answer) {
    InscribedStones x = some();
    int got = asked.applyAsInt(x);
    if (answer != ANSWER) {
      due(call, got, answer);
    }
    same("all else after " + call, allOf(x).toString(), UNTOUCHED.toString());
  }

  private static void bad(String call, ToIntFunction<InscribedStones> asked) {
    changesNothing(call, asked, BAD);
  }

  // ---- the refusals of each call

  private static void signsAreRefused() {
    bad("stone(0, 1)", x -> x.stone(0, 1));
    bad("stone(5, 24)", x -> x.stone(5, 24));
    bad("stone(1, 0)", x -> x.stone(1, 0));
    bad("stone(4, 25)", x -> x.stone(4, 25));
    bad("hand(-1)", x -> x.hand(-1));
    bad("hand(10)", x -> x.hand(10));
    bad("read by no hand", x -> x.read(3, 0, 0, 0, 0, 5));
    bad("read by hand -1", x -> x.read(-1, 0, 0, 0, 0, 5));
    bad("read on no stone", x -> x.read(0, 4, 0, 0, 0, 5));
    bad("read on no line", x -> x.read(0, 3, 1, 0, 0, 5));
    bad("read on no place", x -> x.read(0, 0, 0, 3, 0, 5));
    bad("read on place -1", x -> x.read(0, 0, 1, -1, 0, 5));
    bad("read of kind 6", x -> x.read(0, 0, 0, 0, 6, 5));
    bad("read of kind -1", x -> x.read(0, 0, 0, 0, -1, 5));
    bad("read a sign 27", x -> x.read(0, 0, 0, 0, 0, 27));
    bad("read a sure sign -1", x -> x.read(0, 0, 0, 0, 1, -1));
    bad("read an added sign 27", x -> x.read(0, 0, 0, 0, 5, 27));
    bad("read half of one", x -> x.read(0, 0, 0, 0, 2, 8));
    bad("read half of a 28th", x -> x.read(0, 0, 0, 0, 2, 1 << 27 | 9));
    bad("forget by no hand", x -> x.forget(3, 0, 0, 0));
    bad("forget on no stone", x -> x.forget(0, 4, 0, 0));
    bad("forget on no line", x -> x.forget(1, 3, 1, 5));
    bad("forget on no place", x -> x.forget(0, 0, 0, 3));
    changesNothing("forget what was not read", x -> x.forget(2, 0, 0, 0), 0);
    bad("sign of what 4", x -> x.sign(0, 0, 0, 4));
  }

  private static void formulasAreRefused() {
    bad("feed(0)", x -> x.feed(0, 'z'));
    bad("feed(9)", x -> x.feed(9, 'z'));
    bad("texts(2)", x -> x.texts(2));
    bad("text(2)", x -> x.text(2, 0, 0));
    bad("ways by formula 2", x -> x.ways(0, 0, 2));
    bad("way by formula 2", x -> x.way(0, 0, 2, 0));
    bad("carried by formula 2", x -> x.carried(0, 0, 0, 2));
    bad("fits on no line", x -> x.fits(3, 1));
  }

  private static void edgesAreRefused() {
    bad("edge of v 10", x -> x.edge(0, RIGHT, 0, 10));
    bad("edge of v -1", x -> x.edge(1, LEFT, 1, -1));
    bad("edge of side 2", x -> x.edge(0, 2, 0, 1));
    bad("edge of side -1", x -> x.edge(1, -1, 0, 1));
    bad("edge of no line", x -> x.edge(1, LEFT, 2, 1));
    bad("edge of no line of the last stone", x -> x.edge(3, LEFT, 1, 1));
    bad("edge of no stone", x -> x.edge(4, LEFT, 0, 1));
    bad("tolerance(4)", x -> x.tolerance(4));
    bad("tolerance(-1)", x -> x.tolerance(-1));
    bad("room with no stone", x -> x.room(0, 4));
    bad("best on side 2", x -> x.best(0, 2));
    bad("join with no stone", x -> x.join(0, 4));
    bad("join of stone -1", x -> x.join(-1, 1));
    changesNothing("join again", x -> x.join(0, 1), STATE);
    changesNothing("join what has a join", x -> x.join(0, 2), STATE);
    changesNothing("join to what has a join", x -> x.join(2, 1), STATE);
    changesNothing("join in a ring", x -> x.join(1, 0), STATE);
    changesNothing("join with itself", x -> x.join(2, 2), STATE);
    changesNothing("join what can't be", x -> x.join(2, 3), STATE);
    bad("part of no stone", x -> x.part(4));
    bad("part of stone -1", x -> x.part(-1));
    changesNothing("part of what has none", x -> x.part(1), STATE);
    bad("joined on side 2", x -> x.joined(0, 2));
    bad("whole of no line", x -> x.whole(0, 2, 0));
    changesNothing("whole of one within", x -> x.whole(1, 0, 0), STATE);
    bad("whole of one within, by no formula", x -> x.whole(1, 0, 2));
    bad("whole of one within, no line", x -> x.whole(1, 2, 0));
  }

  private static void yearsAreRefused() {
    bad("years from -1000", x -> x.years(0, -1000, 0));
    bad("years to 1000", x -> x.years(0, 0, 1000));
    bad("years the other way round", x -> x.years(1, 6, 5));
    bad("years of no stone", x -> x.years(4, 0, 0));
    bad("bound of a = b", x -> x.bound(1, 1, 0));
    bad("bound of d 201", x -> x.bound(0, 1, 201));
    bad("bound of d -201", x -> x.bound(0, 1, -201));
    bad("bound of no a", x -> x.bound(4, 1, 100));
    bad("bound of no b", x -> x.bound(1, 4, 100));
    bad("span of what 2", x -> x.span(0, 2));
  }

  private static void personsAreRefused() {
    bad("person of no name", x -> x.person(0, 1, 0));
    bad("person of a digit 0", x -> x.person(27, 1, 0));
    bad("person of eight letters", x -> x.person(10460353203L, 1, 0));
    bad("person of a bad father", x -> x.person(1, 54, 0));
    bad("person of father -1", x -> x.person(1, -1, 0));
    bad("person of no stone", x -> x.person(1, 0, 4));
    bad("one of a = b", x -> x.one(2, 2));
    bad("one of a = b, no person", x -> x.one(4, 4));
    bad("group of no person", x -> x.group(4));
    bad("father of no person", x -> x.father(4));
  }

  private static void printedAreRefused() {
    bad("print by formula 2", x -> x.print(0, 0, 2));
    bad("print by formula -2", x -> x.print(0, 0, -2));
    bad("printed by formula 2", x -> x.printed(0, 0, 2, 0));
    bad("back by no hand", x -> x.back(3, 0, 0));
    bad("back on no stone", x -> x.back(0, 4, 0));
    bad("back on no line", x -> x.back(0, 3, 1));
    bad("count(9)", x -> x.count(9));
    bad("count(-1)", x -> x.count(-1));
  }

  private static void hostIsRefused() {
    bad("tray 4", x -> x.tray(4, 3));
    bad("tray -1", x -> x.tray(-1, 3));
    bad("tray of 41", x -> x.tray(0, 41));
    bad("tray 4 of -2", x -> x.tray(4, -2));
    changesNothing("tray of -2", x -> x.tray(0, -2), -14);
    changesNothing("a missing tray of -2", x -> x.tray(2, -2), -14);
    bad("cell of tray 4", x -> x.cell(4, 0, 'x'));
    changesNothing("cell of a missing tray", x -> x.cell(2, 0, 'x'), -11);
    changesNothing("cell of an empty tray", x -> x.cell(1, 0, 'x'), -12);
    changesNothing("cell behind", x -> x.cell(0, 5, 'x'), -12);
    changesNothing("cell ahead", x -> x.cell(3, -1, 'x'), -12);
    bad("lay by no hand", x -> x.lay(3, 3, 0, 3, 0));
    bad("lay on no line", x -> x.lay(0, 3, 1, 3, 0));
    bad("lay of tray 4", x -> x.lay(0, 3, 0, 4, 0));
    changesNothing("lay of a missing tray", x -> x.lay(0, 3, 0, 2, 0), -11);
    changesNothing("lay from behind", x -> x.lay(0, 3, 0, 3, 7), -12);
    changesNothing("lay from ahead", x -> x.lay(0, 3, 0, 3, -1), -12);
    changesNothing("lay of an empty tray", x -> x.lay(0, 3, 0, 1, 0), -12);
    bad("taken for kind 6", x -> x.taken(0, 0, 0, 0, 6));
    changesNothing("taken of what is not read", x -> x.taken(2, 0, 0, 0, 0), -11);
    changesNothing("taken for another kind", x -> x.taken(0, 0, 0, 0, 2), -13);
  }

  // ---- an object that is full

  private static InscribedStones most() {
    InscribedStones x = made(12, 1, 2, 6);
    for (int i = 0; i < 8; i++) {
      Due.formula(x, (char) ('a' + i) + ".");
    }
    for (int i = 0; i < 12; i++) {
      x.person(1 + i % 5, i % 3, i);
    }
    for (int i = 0; i < 20; i++) {
      x.bound(i % 11, i % 11 + 1, i);
    }
    x.read(5, 11, 0, 1, 0, 25);
    x.join(0, 1);
    Due.feed(x, "a<b>" + " ".repeat(196));
    return x;
  }

  private static List<Integer> allOfMost(InscribedStones x) {
    List<Integer> answers = new ArrayList<>();
    for (int what = 0; what <= 8; what++) {
      answers.add(x.count(what));
    }
    for (int i = 0; i < 13; i++) {
      answers.add(x.sign(i, 0, 0, 2));
      answers.add(x.sign(i, 0, 1, 2));
      answers.add(x.sign(i, 1, 0, 2));
      answers.add(x.sign(i, 0, 2, 2));
      answers.add(x.taken(i % 7, 11, 0, 1, 0));
      answers.add(x.texts(i));
      answers.add(x.text(i, 0, 0));
      answers.add(x.span(i, 0));
      answers.add(x.span(i, 1));
      answers.add(x.joined(i, 0));
      answers.add(x.best(i, 1));
      answers.add(x.room(i, 11 - i));
      answers.add(x.group(i));
      answers.add(x.father(i));
      answers.add(x.one(i, 11 - i));
      answers.add(x.edge(i, 1, 0, 0));
    }
    for (int i = 0; i < 21; i++) {
      answers.add(x.loose());
      answers.add(x.span(i % 12, 0));
    }
    answers.add(x.formula());
    answers.add(x.count(6));
    answers.add(x.back(0, 0, 0));
    due("within the calls that are promised", answers.size() + MADE_WITH <= ALL_CALLS ? 1 : 0, 1);
    return answers;
  }

  private static final List<Integer> UNTOUCHED_MOST = allOfMost(most());

  private static void changesNothingOfMost(String call, ToIntFunction<InscribedStones> asked, int answer) {
    InscribedStones x = most();
    due(call, asked.applyAsInt(x), answer);
    same("all else after " + call, allOfMost(x).toString(), UNTOUCHED_MOST.toString());
  }

  private static void fullIsRefused() {
    changesNothingOfMost("a 13th stone", x -> x.stone(1, 1), FULL);
    changesNothingOfMost("a 13th stone, a great one", x -> x.stone(4, 24), FULL);
    changesNothingOfMost("a seventh hand", x -> x.hand(9), FULL);
    changesNothingOfMost("a 201st byte", x -> x.feed(1, 'a'), FULL);
    changesNothingOfMost("a 208th byte", x -> x.feed(8, -1L), FULL);
    changesNothingOfMost("a ninth formula", x -> x.formula(), FULL);
    changesNothingOfMost("a 13th person", x -> x.person(1, 0, 0), FULL);
    changesNothingOfMost("a 21st bound", x -> x.bound(0, 11, 200), FULL);
  }

  // A call to which two of its refusals apply: the first that its words name is the answer.
  private static void twoOfMost() {
    changesNothingOfMost("a bad 13th stone, lines", x -> x.stone(0, 1), BAD);
    changesNothingOfMost("a bad 13th stone, lines", x -> x.stone(5, 1), BAD);
    changesNothingOfMost("a bad 13th stone, places", x -> x.stone(1, 0), BAD);
    changesNothingOfMost("a bad 13th stone, places", x -> x.stone(1, 25), BAD);
    changesNothingOfMost("a bad seventh hand", x -> x.hand(10), BAD);
    changesNothingOfMost("a bad seventh hand", x -> x.hand(-1), BAD);
    changesNothingOfMost("a bad feed of a full tape", x -> x.feed(9, 0), BAD);
    changesNothingOfMost("a bad feed of a full tape", x -> x.feed(0, 0), BAD);
    changesNothingOfMost("a bad feed of a full tape", x -> x.feed(MOST, 0), BAD);
    changesNothingOfMost("a bad feed of a full tape", x -> x.feed(LEAST, 0), BAD);
    changesNothingOfMost("a bad 13th person, name", x -> x.person(0, 0, 0), BAD);
    changesNothingOfMost("a bad 13th person, father", x -> x.person(1, 27, 0), BAD);
    changesNothingOfMost("a bad 13th person, stone", x -> x.person(1, 0, 12), BAD);
    changesNothingOfMost("a bad 21st bound, a = b", x -> x.bound(3, 3, 0), BAD);
    changesNothingOfMost("a bad 21st bound, d", x -> x.bound(0, 1, 201), BAD);
    changesNothingOfMost("a bad 21st bound, d", x -> x.bound(0, 1, -201), BAD);
    changesNothingOfMost("a bad 21st bound, a", x -> x.bound(12, 1, 0), BAD);
    changesNothingOfMost("a bad 21st bound, b", x -> x.bound(0, -1, 0), BAD);
    changesNothingOfMost("a bad back, the tape being none such", x -> x.back(6, 0, 0), BAD);
    changesNothingOfMost("a bad back, the tape being none such", x -> x.back(0, 12, 0), BAD);
    changesNothingOfMost("a bad back, the tape being none such", x -> x.back(0, 0, 1), BAD);
    changesNothingOfMost("join of no stone that is no best", x -> x.join(12, 12), BAD);
    changesNothingOfMost("join of one that has a join", x -> x.join(0, 12), BAD);
    changesNothingOfMost("part of no stone", x -> x.part(12), BAD);
  }

  private static void askingChangesNothing() {
    changesNothing("sign", x -> x.sign(0, 0, 0, 3), 1);
    changesNothing("texts", x -> x.texts(0), 2);
    changesNothing("text", x -> x.text(0, 1, 3), 2);
    changesNothing("ways", x -> x.ways(1, 0, 1), ANSWER);
    changesNothing("way", x -> x.way(1, 0, 1, 3), ANSWER);
    changesNothing("carried", x -> x.carried(1, 0, 0, 0), ANSWER);
    changesNothing("fits", x -> x.fits(3, 0), ANSWER);
    changesNothing("room", x -> x.room(1, 2), ANSWER);
    changesNothing("best", x -> x.best(1, RIGHT), ANSWER);
    changesNothing("joined", x -> x.joined(1, LEFT), 0);
    changesNothing("whole", x -> x.whole(0, 1, 0), ANSWER);
    changesNothing("span", x -> x.span(1, 0), 60);
    changesNothing("clash", x -> x.clash(), NONE);
    changesNothing("one", x -> x.one(0, 1), ANSWER);
    changesNothing("group", x -> x.group(3), ANSWER);
    changesNothing("father", x -> x.father(0), ANSWER);
    changesNothing("print", x -> x.print(0, 0, 0), ANSWER);
    changesNothing("printed", x -> x.printed(0, 0, 0, 0), ANSWER);
    changesNothing("count", x -> x.count(7), ANSWER);
    changesNothing("taken", x -> x.taken(0, 0, 0, 0, 0), 1);
  }

  /** That a call that does change something is seen, so that what is seen above counts. */
  private static void aChangeIsSeen() {
    List<ToIntFunction<InscribedStones>> calls = List.of(
        x -> x.stone(1, 1), x -> x.hand(1), x -> x.read(2, 3, 0, 1, 0, 5), x -> x.forget(0, 0, 0, 1),
        x -> x.feed(1, 'c'), x -> x.formula(), x -> x.edge(3, RIGHT, 0, 8), x -> x.edge(0, LEFT, 0, 0),
        x -> x.tolerance(2), x -> x.join(1, 2), x -> x.part(0), x -> x.years(0, 11, 300),
        x -> x.bound(0, 3, 99), x -> x.loose(), x -> x.person(1, 0, 0), x -> x.back(1, 0, 1),
        x -> x.tray(0, 5), x -> x.tray(0, 4), x -> x.tray(3, 6), x -> x.tray(2, 0), x -> x.tray(1, NONE),
        x -> x.cell(0, 0, 'd'), x -> x.cell(3, 6, 0), x -> x.lay(2, 3, 0, 0, 0));
    for (int i = 0; i < calls.size(); i++) {
      InscribedStones x = some();
      calls.get(i).applyAsInt(x);
      due("change " + i + " is seen", allOf(x).equals(UNTOUCHED) ? 0 : 1, 1);
    }
  }
}
