import java.util.Arrays;

/** Broken inscriptions: what hands read, what formulas fill in, how stones join and date. */
public final class InscribedStones {
  public static final int NONE = -1, BAD = -2, STATE = -3, FULL = -4;

  // The refusals of the host, and the answers that are neither numbers nor refusals.
  private static final int MISSING = -11, OUTSIDE = -12, OTHER_SORT = -13, BELOW_ZERO = -14;
  private static final int FAULT = -20, CLASHED = -100000;

  private static final int STONES = 12, LINES = 4, PLACES = 24, HANDS = 6, FORMULAS = 8;
  private static final int PERSONS = 12, BOUNDS = 20, TAPE_BYTES = 200, TRAYS = 4, TRAY_BYTES = 40;

  // KINDS, and for each the one that it is under.
  private static final int SIGN = 0, SURE = 1, HALF = 2, GONE = 3, ERASED = 4, ADDED = 5;
  private static final int KINDS = 6;
  private static final int[] KIND_ABOVE = {-1, 0, 0, 0, 3, 0};

  private static final int LETTERS = 27, BLANK = 26, ANY = (1 << LETTERS) - 1;

  private static final int LEFT = 0, RIGHT = 1;

  private final Stones slabs;
  private final Readings readings;
  private final Tape input;
  private final FormulaMaker maker;
  private final TextSet[] formulas;
  private int formulaCount;
  private final Surface surface;
  private final Edges edges;
  private final Dating dating;
  private final People people;
  private final Page page;
  private final Trays trays;

  public InscribedStones() {
    slabs = new Stones();
    readings = new Readings();
    input = new Tape();
    maker = new FormulaMaker();
    formulas = new TextSet[FORMULAS];
    surface = new Surface();
    edges = new Edges(slabs);
    dating = new Dating();
    people = new People(dating);
    page = new Page();
    trays = new Trays();
  }

  // ---- signs

  public int stone(int lines, int places) {
    if (lines < 1 || lines > LINES || places < 1 || places > PLACES) {
      return BAD;
    }
    return slabs.put(lines, places);
  }

  public int hand(int rank) {
    if (rank < 0 || rank > 9) {
      return BAD;
    }
    return readings.putHand(rank);
  }

  public int read(int hand, int stone, int line, int place, int kind, int v) {
    if (!readings.hasHand(hand) || !slabs.hasPlace(stone, line, place)) {
      return BAD;
    }
    int told = Readings.told(kind, v);
    if (told == Readings.UNREAD) {
      return BAD;
    }
    readings.put(hand, stone, line, place, told);
    return 1;
  }

  public int forget(int hand, int stone, int line, int place) {
    if (!readings.hasHand(hand) || !slabs.hasPlace(stone, line, place)) {
      return BAD;
    }
    if (readings.at(hand, stone, line, place) == Readings.UNREAD) {
      return 0;
    }
    readings.put(hand, stone, line, place, Readings.UNREAD);
    return 1;
  }

  public int sign(int stone, int line, int place, int what) {
    if (!slabs.hasPlace(stone, line, place)) {
      return BAD;
    }
    switch (what) {
      case 0:
        return Readings.kindOf(readings.leading(stone, line, place));
      case 1:
        return Readings.mayOf(readings.leading(stone, line, place));
      case 2:
        return readings.leader(stone, line, place);
      case 3:
        return readings.dissenters(stone, line, place);
      default:
        return BAD;
    }
  }

  // ---- formulas

  public int feed(int n, long bytes) {
    if (n < 1 || n > 8) {
      return BAD;
    }
    return input.append(n, bytes);
  }

  public int formula() {
    if (formulaCount < 0 || formulaCount >= formulas.length) {
      return FULL;
    }
    int fault = maker.make(input);
    input.clear();
    if (fault != NONE) {
      return FAULT - fault;
    }
    if (maker.isSpent()) {
      return STATE;
    }
    formulas[formulaCount] = maker.made();
    formulaCount++;
    return formulaCount - 1;
  }

  public int texts(int formula) {
    TextSet set = textsOf(formula);
    return set == null ? BAD : set.size();
  }

  public int text(int formula, int i, int k) {
    TextSet set = textsOf(formula);
    return set == null ? BAD : set.letter(i, k);
  }

  public int ways(int stone, int line, int formula) {
    TextSet set = textsOf(formula);
    if (set == null || !slabs.hasLine(stone, line)) {
      return BAD;
    }
    layBare(stone, line);
    return surface.countWays(set);
  }

  public int way(int stone, int line, int formula, int i) {
    TextSet set = textsOf(formula);
    if (set == null || !slabs.hasLine(stone, line)) {
      return BAD;
    }
    layBare(stone, line);
    return surface.findWay(set, i);
  }

  public int carried(int stone, int line, int place, int formula) {
    TextSet set = textsOf(formula);
    if (set == null || !slabs.hasPlace(stone, line, place)) {
      return BAD;
    }
    layBare(stone, line);
    surface.carry(set);
    return surface.carriedAt(place);
  }

  public int fits(int stone, int line) {
    if (!slabs.hasLine(stone, line)) {
      return BAD;
    }
    layBare(stone, line);
    for (int formula = 0; formula < formulaCount; formula++) {
      TextSet set = textsOf(formula);
      if (set != null && surface.findWay(set, 0) != NONE) {
        return formula;
      }
    }
    return NONE;
  }

  /** The texts of a formula, or null if there is no such formula. */
  private TextSet textsOf(int formula) {
    boolean there = formula >= 0 && formula < formulaCount && formula < formulas.length;
    return there ? formulas[formula] : null;
  }

  private void layBare(int stone, int line) {
    surface.clear();
    layBareMore(stone, line);
  }

  /** Whether the line had room behind what lies bare already. */
  private boolean layBareMore(int stone, int line) {
    int places = slabs.placesOf(stone);
    for (int place = 0; place < places; place++) {
      int may = Readings.mayOf(readings.leading(stone, line, place));
      if (!surface.add(may)) {
        return false;
      }
    }
    return true;
  }

  // ---- edges

  public int edge(int stone, int side, int line, int v) {
    if (!slabs.hasLine(stone, line) || !isSide(side) || v < 0 || v > 9) {
      return BAD;
    }
    return edges.tell(stone, side, line, v);
  }

  public int tolerance(int n) {
    if (n < 0 || n > 3) {
      return BAD;
    }
    return edges.tellTolerance(n);
  }

  public int room(int a, int b) {
    if (!slabs.has(a) || !slabs.has(b)) {
      return BAD;
    }
    return edges.sum(a, b);
  }

  public int best(int stone, int side) {
    if (!slabs.has(stone) || !isSide(side)) {
      return BAD;
    }
    return edges.bestOf(stone, side);
  }

  public int join(int a, int b) {
    if (!slabs.has(a) || !slabs.has(b)) {
      return BAD;
    }
    return edges.tie(a, b) ? 1 : STATE;
  }

  public int part(int stone) {
    if (!slabs.has(stone)) {
      return BAD;
    }
    return edges.untieRight(stone) ? 1 : STATE;
  }

  public int joined(int stone, int side) {
    if (!slabs.has(stone) || !isSide(side)) {
      return BAD;
    }
    return edges.neighbour(stone, side);
  }

  public int whole(int stone, int line, int formula) {
    TextSet set = textsOf(formula);
    if (set == null || !slabs.hasLine(stone, line)) {
      return BAD;
    }
    if (edges.neighbour(stone, LEFT) != NONE) {
      return STATE;
    }
    surface.clear();
    int next = stone;
    for (int steps = 0; steps < STONES && next != NONE; steps++) {
      if (!layBareMore(next, line)) {
        return 0;
      }
      next = edges.neighbour(next, RIGHT);
    }
    return surface.countWays(set);
  }

  private static boolean isSide(int side) {
    return side == LEFT || side == RIGHT;
  }

  // ---- years

  public int years(int stone, int least, int most) {
    boolean told = least >= Dating.FIRST_YEAR && least <= most && most <= Dating.LAST_YEAR;
    if (!slabs.has(stone) || !told) {
      return BAD;
    }
    dating.limit(stone, least, most);
    return 1;
  }

  public int bound(int a, int b, int d) {
    if (!slabs.has(a) || !slabs.has(b) || a == b || d < -200 || d > 200) {
      return BAD;
    }
    return dating.put(a, b, d);
  }

  public int loose() {
    return dating.drop();
  }

  public int span(int stone, int what) {
    if (!slabs.has(stone) || what < 0 || what > 1) {
      return BAD;
    }
    if (!dating.settle()) {
      return CLASHED;
    }
    return what == 0 ? dating.earliest(stone) : dating.latest(stone);
  }

  public int clash() {
    return dating.clashing();
  }

  // ---- persons

  public int person(long name, long father, int stone) {
    boolean words = People.isWord(name) && (father == 0 || People.isWord(father));
    if (!words || !slabs.has(stone)) {
      return BAD;
    }
    return people.put(name, father, stone);
  }

  public int one(int a, int b) {
    if (!people.has(a) || !people.has(b) || a == b) {
      return BAD;
    }
    return dating.settle() && people.mayBeOne(a, b) ? 1 : 0;
  }

  public int group(int person) {
    if (!people.has(person)) {
      return BAD;
    }
    people.sort();
    return people.groupOf(person);
  }

  public int father(int person) {
    if (!people.has(person)) {
      return BAD;
    }
    return dating.settle() ? people.fatherOf(person) : NONE;
  }

  // ---- printed

  public int print(int stone, int line, int formula) {
    if (!slabs.hasLine(stone, line) || !isFormulaOrNone(formula)) {
      return BAD;
    }
    setPage(stone, line, formula);
    return page.size();
  }

  public int printed(int stone, int line, int formula, int i) {
    if (!slabs.hasLine(stone, line) || !isFormulaOrNone(formula)) {
      return BAD;
    }
    setPage(stone, line, formula);
    return page.byteAt(i);
  }

  public int back(int hand, int stone, int line) {
    if (!readings.hasHand(hand) || !slabs.hasLine(stone, line)) {
      return BAD;
    }
    int places = slabs.placesOf(stone);
    int fault = page.parse(input, places);
    input.clear();
    if (fault != NONE) {
      return FAULT - fault;
    }
    for (int place = 0; place < places; place++) {
      readings.put(hand, stone, line, place, page.parsedAt(place));
    }
    return places;
  }

  public int count(int what) {
    switch (what) {
      case 0:
        return slabs.size();
      case 1:
        return readings.hands();
      case 2:
        return formulaCount;
      case 3:
        return people.size();
      case 4:
        return dating.size();
      case 5:
        return edges.ties();
      case 6:
        return input.size();
      case 7:
        return people.sort();
      case 8:
        return edges.allowance();
      default:
        return BAD;
    }
  }

  private boolean isFormulaOrNone(int formula) {
    return formula == NONE || textsOf(formula) != null;
  }

  private void setPage(int stone, int line, int formula) {
    TextSet set = textsOf(formula);
    surface.clear();
    layBareMore(stone, line);
    if (set == null) {
      surface.carryNothing();
    } else {
      surface.carry(set);
    }
    page.clear();
    int places = slabs.placesOf(stone);
    for (int place = 0; place < places; place++) {
      page.write(readings.leading(stone, line, place), surface.carriedAt(place));
    }
  }

  // ---- the host

  public int tray(int tray, int n) {
    if (!Trays.has(tray) || n > TRAY_BYTES) {
      return BAD;
    }
    if (n < NONE) {
      return BELOW_ZERO;
    }
    trays.put(tray, n);
    return 1;
  }

  public int cell(int tray, int i, int v) {
    if (!Trays.has(tray)) {
      return BAD;
    }
    if (trays.isMissing(tray)) {
      return MISSING;
    }
    return trays.set(tray, i, v) ? 1 : OUTSIDE;
  }

  public int lay(int hand, int stone, int line, int tray, int from) {
    if (!readings.hasHand(hand) || !slabs.hasLine(stone, line) || !Trays.has(tray)) {
      return BAD;
    }
    if (trays.isMissing(tray)) {
      return MISSING;
    }
    int places = slabs.placesOf(stone);
    for (int place = 0; place < places; place++) {
      int b = trays.byteAt(tray, from, place);
      if (b == NONE) {
        return OUTSIDE;
      }
      int letter = b == ' ' ? BLANK : Tape.letterOf(b);
      int told = letter == NONE ? Readings.told(GONE, 0) : Readings.told(SIGN, letter);
      readings.put(hand, stone, line, place, told);
    }
    return places;
  }

  public int taken(int hand, int stone, int line, int place, int k) {
    boolean there = readings.hasHand(hand) && slabs.hasPlace(stone, line, place);
    if (!there || k < 0 || k >= KINDS) {
      return BAD;
    }
    int told = readings.at(hand, stone, line, place);
    if (told == Readings.UNREAD) {
      return MISSING;
    }
    return Readings.isUnder(Readings.kindOf(told), k) ? Readings.mayOf(told) : OTHER_SORT;
  }

  /** The stones, and how many lines and places each has. */
  private static final class Stones {
    private final int[] lines = new int[STONES];
    private final int[] places = new int[STONES];
    private int size;

    int put(int lineCount, int placeCount) {
      if (size < 0 || size >= STONES) {
        return FULL;
      }
      lines[size] = lineCount;
      places[size] = placeCount;
      size++;
      return size - 1;
    }

    int size() {
      return size;
    }

    boolean has(int stone) {
      return stone >= 0 && stone < size && stone < STONES;
    }

    boolean hasLine(int stone, int line) {
      return has(stone) && line >= 0 && line < lines[stone];
    }

    boolean hasPlace(int stone, int line, int place) {
      return hasLine(stone, line) && place >= 0 && place < places[stone];
    }

    int linesOf(int stone) {
      return has(stone) ? lines[stone] : 0;
    }

    int placesOf(int stone) {
      return has(stone) ? places[stone] : 0;
    }
  }

  /** What each hand reads at each place: kind and may in one number, so that like ones are equal. */
  private static final class Readings {
    static final int UNREAD = 0;

    private final int[] ranks = new int[HANDS];
    private final int[] told = new int[HANDS * STONES * LINES * PLACES];
    private int hands;

    /** A reading of a kind; UNREAD, if v is not as the kind wants it or there is no such kind. */
    static int told(int kind, int v) {
      switch (kind) {
        case SIGN:
        case SURE:
        case ADDED:
          return v >= 0 && v < LETTERS ? packed(kind, 1 << v) : UNREAD;
        case HALF:
          return v >= 0 && v <= ANY && Integer.bitCount(v) >= 2 ? packed(kind, v) : UNREAD;
        case GONE:
        case ERASED:
          return packed(kind, ANY);
        default:
          return UNREAD;
      }
    }

    // One above the kind, so that no reading is UNREAD.
    private static int packed(int kind, int may) {
      return (kind + 1) << LETTERS | may;
    }

    static int kindOf(int reading) {
      return reading == UNREAD ? GONE : (reading >> LETTERS) - 1;
    }

    static int mayOf(int reading) {
      return reading == UNREAD ? ANY : reading & ANY;
    }

    static boolean isUnder(int kind, int wanted) {
      int above = kind;
      for (int steps = 0; steps < KINDS && above >= 0 && above < KINDS; steps++) {
        if (above == wanted) {
          return true;
        }
        above = KIND_ABOVE[above];
      }
      return false;
    }

    int putHand(int rank) {
      if (hands < 0 || hands >= HANDS) {
        return FULL;
      }
      ranks[hands] = rank;
      hands++;
      return hands - 1;
    }

    int hands() {
      return hands;
    }

    boolean hasHand(int hand) {
      return hand >= 0 && hand < hands && hand < HANDS;
    }

    private int index(int hand, int stone, int line, int place) {
      return ((hand * STONES + stone) * LINES + line) * PLACES + place;
    }

    int at(int hand, int stone, int line, int place) {
      int index = index(hand, stone, line, place);
      return index >= 0 && index < told.length ? told[index] : UNREAD;
    }

    void put(int hand, int stone, int line, int place, int reading) {
      int index = index(hand, stone, line, place);
      if (index >= 0 && index < told.length) {
        told[index] = reading;
      }
    }

    /** The hand whose reading stands, or NONE. */
    int leader(int stone, int line, int place) {
      int leader = NONE;
      int rank = NONE;
      for (int hand = 0; hand < hands && hand < HANDS; hand++) {
        if (ranks[hand] > rank && at(hand, stone, line, place) != UNREAD) {
          leader = hand;
          rank = ranks[hand];
        }
      }
      return leader;
    }

    int leading(int stone, int line, int place) {
      int leader = leader(stone, line, place);
      return leader == NONE ? UNREAD : at(leader, stone, line, place);
    }

    int dissenters(int stone, int line, int place) {
      int leading = leading(stone, line, place);
      int dissenters = 0;
      for (int hand = 0; hand < hands; hand++) {
        int own = at(hand, stone, line, place);
        if (own != UNREAD && own != leading) {
          dissenters++;
        }
      }
      return dissenters;
    }
  }

  /** The bytes that were fed and not used yet. */
  private static final class Tape {
    private final byte[] bytes = new byte[TAPE_BYTES];
    private int size;

    int append(int n, long number) {
      if (n < 0 || size < 0 || size + n > TAPE_BYTES) {
        return FULL;
      }
      for (int i = 0; i < n; i++) {
        bytes[size + i] = (byte) (number >> (8 * i));
      }
      size += n;
      return size;
    }

    void clear() {
      size = 0;
    }

    int size() {
      return size;
    }

    /** A byte 0 .. 255, or NONE outside. */
    int byteAt(int at) {
      return at >= 0 && at < size && at < TAPE_BYTES ? bytes[at] & 255 : NONE;
    }

    int lettersFrom(int from) {
      int end = from;
      while (end < size && letterOf(byteAt(end)) != NONE) {
        end++;
      }
      return end - from;
    }

    /** The letter 0 .. 25 that a byte a .. z stands for, or NONE. */
    static int letterOf(int b) {
      return b >= 'a' && b <= 'z' ? b - 'a' : NONE;
    }
  }

  /**
   * Up to 200 texts of up to 24 letters, in the order of letters. Each is kept as two longs of
   * twelve letters, five bits a letter, the first one highest (0 none, 1 blank, 2 .. 27 a .. z),
   * so that the order of the numbers is that of the texts.
   */
  private static final class TextSet {
    static final int ROOM = 200;
    private static final int LETTER_BITS = 5, HALF_LETTERS = 12, HALF_BITS = 60;
    private static final long LETTER_MASK = 31, HALF_MASK = (1L << HALF_BITS) - 1;

    private final long[] halves;
    private int size;

    TextSet(int room) {
      halves = new long[2 * Math.max(0, Math.min(room, ROOM))];
    }

    void clear() {
      size = 0;
    }

    int size() {
      return size;
    }

    long head(int i) {
      return i >= 0 && i < size && 2 * i < halves.length ? halves[2 * i] : 0;
    }

    long tail(int i) {
      return i >= 0 && i < size && 2 * i + 1 < halves.length ? halves[2 * i + 1] : 0;
    }

    /** The letter 0 .. 26 at place k of the i-th text; NONE, if there is none. */
    int letter(int i, int k) {
      if (k < 0 || k >= PLACES) {
        return NONE;
      }
      boolean first = k < HALF_LETTERS;
      long half = first ? head(i) : tail(i);
      int behind = HALF_LETTERS - 1 - (first ? k : k - HALF_LETTERS);
      int code = (int) (half >> (behind * LETTER_BITS) & LETTER_MASK);
      return code == 0 ? NONE : code == 1 ? BLANK : code - 2;
    }

    static long codeAt(int letter, int k) {
      return (letter == BLANK ? 1L : letter + 2L) << ((HALF_LETTERS - 1 - k) * LETTER_BITS);
    }

    /** How many letters a text has; its letters leave no gap, so the lowest set bit tells. */
    static int lengthOf(long head, long tail) {
      if (head == 0) {
        return 0;
      }
      long half = tail == 0 ? head : tail;
      int zeros = Long.bitCount((half & -half) - 1);
      return (tail == 0 ? HALF_LETTERS : PLACES) - zeros / LETTER_BITS;
    }

    /** Adds a text in its order, if it is new; whether it had room. */
    boolean add(long head, long tail) {
      int at = 0;
      int end = size;
      for (int steps = 0; steps < ROOM && at < end; steps++) {
        int middle = (at + end) / 2;
        if (head(middle) < head || head(middle) == head && tail(middle) < tail) {
          at = middle + 1;
        } else {
          end = middle;
        }
      }
      if (at < size && head(at) == head && tail(at) == tail) {
        return true;
      }
      if (at < 0 || at > size || 2 * size + 2 > halves.length) {
        return false;
      }
      System.arraycopy(halves, 2 * at, halves, 2 * at + 2, 2 * (size - at));
      halves[2 * at] = head;
      halves[2 * at + 1] = tail;
      size++;
      return true;
    }

    boolean addAll(TextSet other) {
      for (int i = 0; i < other.size; i++) {
        if (!add(other.head(i), other.tail(i))) {
          return false;
        }
      }
      return true;
    }

    /** Adds each text of the one with each of the other behind it; whether all had room. */
    boolean addPairs(TextSet ones, TextSet others) {
      for (int i = 0; i < ones.size; i++) {
        for (int j = 0; j < others.size; j++) {
          if (!addPair(ones.head(i), ones.tail(i), others.head(j), others.tail(j))) {
            return false;
          }
        }
      }
      return true;
    }

    private boolean addPair(long head, long tail, long nextHead, long nextTail) {
      int length = lengthOf(head, tail);
      int nextLength = lengthOf(nextHead, nextTail);
      if (length == 0) {
        return add(nextHead, nextTail);
      }
      if (nextLength == 0) {
        return add(head, tail);
      }
      int from = length + 1;
      if (from + nextLength > PLACES) {
        return false;
      }
      if (from > HALF_LETTERS) {
        int shift = (from - HALF_LETTERS) * LETTER_BITS;
        return add(head, tail | codeAt(BLANK, length - HALF_LETTERS) | nextHead >> shift);
      }
      int shift = from * LETTER_BITS;
      long crossing = nextHead << (HALF_BITS - shift) & HALF_MASK;
      return add(head | codeAt(BLANK, length) | nextHead >> shift, crossing | nextTail >> shift);
    }

    /** A set of the same texts that takes no more room than they need. */
    TextSet copy() {
      TextSet copy = new TextSet(size);
      copy.addAll(this);
      return copy;
    }
  }

  /** Makes the texts of a formula in one walk over the tape, with one level for each open bracket. */
  private static final class FormulaMaker {
    private static final int DEPTH = 4, WORD_LETTERS = 8;

    // Of each level: what its row makes so far, what its rows made, and how it was opened.
    private final TextSet[] rows = new TextSet[DEPTH + 1];
    private final TextSet[] alls = new TextSet[DEPTH + 1];
    private final boolean[] optional = new boolean[DEPTH + 1];
    private final TextSet word = new TextSet(1);
    private TextSet spare = new TextSet(TextSet.ROOM);
    private TextSet piece;
    private int level;
    private boolean begun;
    private boolean ended;
    private boolean spent;

    FormulaMaker() {
      for (int i = 0; i <= DEPTH; i++) {
        rows[i] = new TextSet(TextSet.ROOM);
        alls[i] = new TextSet(TextSet.ROOM);
      }
    }

    /** The place of the tape's fault, or NONE. */
    int make(Tape tape) {
      ended = false;
      spent = false;
      piece = null;
      startLevel(0, false);
      int size = tape.size();
      int step = 1;
      for (int at = 0; at < size; at += step) {
        int letters = tape.lettersFrom(at);
        step = Math.max(1, letters);
        boolean stands = letters > 0 ? takeWord(tape, at, letters) : takeMark(tape.byteAt(at));
        if (!stands) {
          return at;
        }
        appendPiece();
      }
      return ended ? NONE : size;
    }

    boolean isSpent() {
      return spent;
    }

    TextSet made() {
      return alls[0].copy();
    }

    private boolean takeWord(Tape tape, int at, int letters) {
      if (ended || letters > WORD_LETTERS) {
        return false;
      }
      long head = 0;
      for (int k = 0; k < letters; k++) {
        head |= TextSet.codeAt(Tape.letterOf(tape.byteAt(at + k)), k);
      }
      word.clear();
      word.add(head, 0);
      piece = word;
      return true;
    }

    private boolean takeMark(int b) {
      if (b == ' ' || b == '\n') {
        return true;
      }
      if (ended) {
        return false;
      }
      switch (b) {
        case '(':
        case '[':
          return open(b == '[');
        case ')':
        case ']':
          return close(b == ']');
        case '|':
          return takeBar();
        case '.':
          return takePoint();
        default:
          return false;
      }
    }

    private boolean open(boolean asOptional) {
      if (level < 0 || level >= DEPTH) {
        return false;
      }
      startLevel(level + 1, asOptional);
      return true;
    }

    private boolean close(boolean asOptional) {
      if (level < 1 || level > DEPTH || !begun || optional[level] != asOptional) {
        return false;
      }
      endRow();
      piece = alls[level];
      if (asOptional) {
        spent = spent || !piece.add(0, 0);
      }
      level--;
      return true;
    }

    private boolean takeBar() {
      if (!begun) {
        return false;
      }
      endRow();
      startRow();
      return true;
    }

    private boolean takePoint() {
      if (!begun || level != 0) {
        return false;
      }
      endRow();
      ended = true;
      return true;
    }

    private void startLevel(int next, boolean asOptional) {
      level = next;
      if (level >= 0 && level <= DEPTH) {
        optional[level] = asOptional;
        alls[level].clear();
      }
      startRow();
    }

    // A row begins as the empty text, so that its first piece makes just that piece's texts.
    private void startRow() {
      begun = false;
      if (level >= 0 && level <= DEPTH) {
        rows[level].clear();
        rows[level].add(0, 0);
      }
    }

    /** Puts the piece that the last token ended, if it did, behind the row. */
    private void appendPiece() {
      if (piece == null || level < 0 || level > DEPTH) {
        return;
      }
      if (!spent) {
        TextSet row = rows[level];
        spare.clear();
        spent = !spare.addPairs(row, piece);
        rows[level] = spare;
        spare = row;
      }
      piece = null;
      begun = true;
    }

    private void endRow() {
      if (!spent && level >= 0 && level <= DEPTH) {
        spent = !alls[level].addAll(rows[level]);
      }
    }
  }

  /** The mays of a line, place by place, and what the texts of a formula carry on it. */
  private static final class Surface {
    private final int[] mays = new int[PLACES];
    private final int[] letters = new int[PLACES];
    private int size;

    void clear() {
      size = 0;
    }

    boolean add(int may) {
      if (size < 0 || size >= PLACES) {
        return false;
      }
      mays[size] = may;
      size++;
      return true;
    }

    private boolean isWay(TextSet set, int i) {
      if (size < PLACES && set.letter(i, size) != NONE) {
        return false;
      }
      for (int place = 0; place < size && place < PLACES; place++) {
        if ((mays[place] >> letterOn(set, i, place) & 1) == 0) {
          return false;
        }
      }
      return true;
    }

    /** The letter of a text at a place, with blanks behind the text. */
    private int letterOn(TextSet set, int i, int place) {
      int letter = set.letter(i, place);
      return letter == NONE ? BLANK : letter;
    }

    int countWays(TextSet set) {
      int ways = 0;
      for (int i = 0; i < set.size(); i++) {
        if (isWay(set, i)) {
          ways++;
        }
      }
      return ways;
    }

    int findWay(TextSet set, int wanted) {
      int ways = 0;
      for (int i = 0; i < set.size(); i++) {
        if (isWay(set, i)) {
          if (ways == wanted) {
            return i;
          }
          ways++;
        }
      }
      return NONE;
    }

    void carryNothing() {
      Arrays.fill(letters, NONE);
    }

    void carry(TextSet set) {
      carryNothing();
      boolean first = true;
      for (int i = 0; i < set.size(); i++) {
        if (isWay(set, i)) {
          for (int place = 0; place < size && place < PLACES; place++) {
            int letter = letterOn(set, i, place);
            boolean alike = first || letters[place] == letter;
            letters[place] = alike ? letter : NONE;
          }
          first = false;
        }
      }
    }

    int carriedAt(int place) {
      return place >= 0 && place < size && place < PLACES ? letters[place] : NONE;
    }
  }

  /** The edges of the stones, and which stones they tie together. */
  private static final class Edges {
    private final Stones stones;
    private final int[] marks = new int[STONES * 2 * LINES];
    private final int[] neighbours = new int[STONES * 2];
    private int tolerance = 1;

    Edges(Stones stones) {
      this.stones = stones;
      Arrays.fill(neighbours, NONE);
    }

    int allowance() {
      return tolerance;
    }

    private int mark(int stone, int side, int line) {
      int index = (stone * 2 + side) * LINES + line;
      return index >= 0 && index < marks.length ? marks[index] : 0;
    }

    int neighbour(int stone, int side) {
      int index = stone * 2 + side;
      return index >= 0 && index < neighbours.length ? neighbours[index] : NONE;
    }

    private void setNeighbour(int stone, int side, int other) {
      int index = stone * 2 + side;
      if (index >= 0 && index < neighbours.length) {
        neighbours[index] = other;
      }
    }

    int tell(int stone, int side, int line, int v) {
      int had = mark(stone, side, line);
      int index = (stone * 2 + side) * LINES + line;
      if (index >= 0 && index < marks.length) {
        marks[index] = v;
      }
      untieRight(stone);
      untieRight(neighbour(stone, LEFT));
      return had;
    }

    int tellTolerance(int n) {
      int had = tolerance;
      tolerance = n;
      Arrays.fill(neighbours, NONE);
      return had;
    }

    /** The sum of the differences with a on the left, or NONE. */
    int sum(int a, int b) {
      if (a == b || stones.linesOf(a) != stones.linesOf(b)) {
        return NONE;
      }
      int sum = 0;
      for (int line = 0; line < stones.linesOf(a); line++) {
        int difference = Math.abs(mark(a, RIGHT, line) - mark(b, LEFT, line));
        if (difference > tolerance) {
          return NONE;
        }
        sum += difference;
      }
      return sum;
    }

    int bestOf(int stone, int side) {
      if (neighbour(stone, side) != NONE) {
        return NONE;
      }
      int best = NONE;
      int least = NONE;
      for (int other = 0; other < stones.size(); other++) {
        int sum = side == RIGHT ? sum(stone, other) : sum(other, stone);
        boolean free = neighbour(other, 1 - side) == NONE;
        if (free && sum != NONE && (best == NONE || sum < least)) {
          best = other;
          least = sum;
        }
      }
      return best;
    }

    /** Joins a with b on its right, if both are free to; whether it did. */
    boolean tie(int a, int b) {
      if (bestOf(a, RIGHT) != b || bestOf(b, LEFT) != a || leadsTo(b, a)) {
        return false;
      }
      setNeighbour(a, RIGHT, b);
      setNeighbour(b, LEFT, a);
      return true;
    }

    private boolean leadsTo(int from, int to) {
      int next = from;
      for (int steps = 0; steps < STONES && next != NONE; steps++) {
        if (next == to) {
          return true;
        }
        next = neighbour(next, RIGHT);
      }
      return false;
    }

    /** Ends the join on the right of a stone; whether there was one. */
    boolean untieRight(int stone) {
      if (!stones.has(stone)) {
        return false;
      }
      int other = neighbour(stone, RIGHT);
      if (other == NONE) {
        return false;
      }
      setNeighbour(stone, RIGHT, NONE);
      setNeighbour(other, LEFT, NONE);
      return true;
    }

    int ties() {
      int ties = 0;
      for (int stone = 0; stone < stones.size(); stone++) {
        if (neighbour(stone, RIGHT) != NONE) {
          ties++;
        }
      }
      return ties;
    }
  }

  /** The years that the stones were told, the bounds between them, and the spans that follow. */
  private static final class Dating {
    static final int FIRST_YEAR = -999, LAST_YEAR = 999;

    private final int[] least = new int[STONES];
    private final int[] most = new int[STONES];
    private final int[] early = new int[STONES];
    private final int[] late = new int[STONES];
    private final int[] before = new int[BOUNDS];
    private final int[] after = new int[BOUNDS];
    private final int[] apart = new int[BOUNDS];
    private int size;

    Dating() {
      Arrays.fill(least, FIRST_YEAR);
      Arrays.fill(most, LAST_YEAR);
    }

    int size() {
      return size;
    }

    void limit(int stone, int from, int to) {
      if (stone >= 0 && stone < STONES) {
        least[stone] = from;
        most[stone] = to;
      }
    }

    int put(int a, int b, int d) {
      boolean stones = a >= 0 && a < STONES && b >= 0 && b < STONES;
      if (!stones || size < 0 || size >= BOUNDS) {
        return FULL;
      }
      before[size] = a;
      after[size] = b;
      apart[size] = d;
      size++;
      return size;
    }

    int drop() {
      if (size <= 0) {
        return STATE;
      }
      size--;
      return size;
    }

    /** Finds the spans; false, if there is no choice of years, and so no span. */
    boolean settle() {
      return settleBy((1 << size) - 1);
    }

    /** As settle, by the bounds alone whose bits are set. */
    private boolean settleBy(int bits) {
      for (int stone = 0; stone < STONES; stone++) {
        early[stone] = least[stone];
        late[stone] = most[stone];
      }
      // A chain of bounds that comes back to no stone has fewer bounds than there are stones:
      // what still moves after that goes round in a ring that no years can keep.
      boolean moved = true;
      for (int round = 0; round <= STONES && moved; round++) {
        moved = tighten(bits);
      }
      for (int stone = 0; stone < STONES && !moved; stone++) {
        moved = early[stone] > late[stone];
      }
      return !moved;
    }

    private boolean tighten(int bits) {
      boolean moved = false;
      for (int i = 0; i < size && i < BOUNDS; i++) {
        int a = before[i];
        int b = after[i];
        boolean stones = a >= 0 && a < STONES && b >= 0 && b < STONES;
        if (stones && (bits >> i & 1) == 1) {
          if (early[b] < early[a] + apart[i]) {
            early[b] = early[a] + apart[i];
            moved = true;
          }
          if (late[a] > late[b] - apart[i]) {
            late[a] = late[b] - apart[i];
            moved = true;
          }
        }
      }
      return moved;
    }

    int earliest(int stone) {
      return stone >= 0 && stone < STONES ? early[stone] : FIRST_YEAR;
    }

    int latest(int stone) {
      return stone >= 0 && stone < STONES ? late[stone] : LAST_YEAR;
    }

    int clashing() {
      int bits = (1 << size) - 1;
      if (settleBy(bits)) {
        return NONE;
      }
      for (int i = size - 1; i >= 0; i--) {
        int without = bits & ~(1 << i);
        if (!settleBy(without)) {
          bits = without;
        }
      }
      return bits;
    }
  }

  /** The persons, told by names, fathers and the spans of their stones. */
  private static final class People {
    private static final int WORD_LETTERS = 7, NAME_BASE = 27;
    private static final int ONE_LIFE = 60, FATHER_LEAST = 15, FATHER_MOST = 60;

    private final Dating dating;
    private final long[] names = new long[PERSONS];
    private final long[] fathers = new long[PERSONS];
    private final int[] stones = new int[PERSONS];
    private final int[] groups = new int[PERSONS];
    private int size;

    People(Dating dating) {
      this.dating = dating;
    }

    static boolean isWord(long number) {
      if (number <= 0) {
        return false;
      }
      long rest = number;
      for (int digit = 0; digit < WORD_LETTERS && rest > 0; digit++) {
        if (rest % NAME_BASE == 0) {
          return false;
        }
        rest /= NAME_BASE;
      }
      return rest == 0;
    }

    int put(long name, long father, int stone) {
      if (size < 0 || size >= PERSONS) {
        return FULL;
      }
      names[size] = name;
      fathers[size] = father;
      stones[size] = stone;
      size++;
      return size - 1;
    }

    int size() {
      return size;
    }

    boolean has(int person) {
      return person >= 0 && person < size && person < PERSONS;
    }

    /** Whether two persons may be one, by the spans that were settled last. */
    boolean mayBeOne(int a, int b) {
      if (!has(a) || !has(b) || names[a] != names[b]) {
        return false;
      }
      if (fathers[a] != fathers[b] && fathers[a] != 0 && fathers[b] != 0) {
        return false;
      }
      int aBehind = dating.earliest(stones[a]) - dating.latest(stones[b]);
      int bBehind = dating.earliest(stones[b]) - dating.latest(stones[a]);
      return aBehind < ONE_LIFE && bBehind < ONE_LIFE;
    }

    /** Sorts the persons into groups anew, as spans may have moved since; how many groups. */
    int sort() {
      boolean spans = dating.settle();
      int count = 0;
      for (int person = 0; person < size && person < PERSONS; person++) {
        int group = 0;
        while (group < count && !(spans && belongs(person, group))) {
          group++;
        }
        groups[person] = group;
        count = Math.max(count, group + 1);
      }
      return count;
    }

    /** Whether a person may be one with all those ahead of it in a group. */
    private boolean belongs(int person, int group) {
      for (int other = 0; other < person && other < PERSONS; other++) {
        if (groups[other] == group && !mayBeOne(person, other)) {
          return false;
        }
      }
      return true;
    }

    int groupOf(int person) {
      return has(person) ? groups[person] : NONE;
    }

    /** The least person that may be the father of one, by the spans that were settled last. */
    int fatherOf(int person) {
      if (!has(person)) {
        return NONE;
      }
      for (int other = 0; other < size && other < PERSONS; other++) {
        if (other != person && names[other] == fathers[person] && isAhead(other, person)) {
          return other;
        }
      }
      return NONE;
    }

    private boolean isAhead(int father, int child) {
      if (!has(father) || !has(child)) {
        return false;
      }
      int closest = dating.earliest(stones[child]) - dating.latest(stones[father]);
      int farthest = dating.latest(stones[child]) - dating.earliest(stones[father]);
      return closest <= FATHER_MOST && farthest >= FATHER_LEAST;
    }
  }

  /** A line as it is printed, and a printed line as it is read back. */
  private static final class Page {
    private static final int MARKED = 3;

    private final int[] bytes = new int[PLACES * MARKED];
    private final int[] parsed = new int[PLACES];
    private int size;

    void clear() {
      size = 0;
    }

    int size() {
      return size;
    }

    int byteAt(int i) {
      return i >= 0 && i < size && i < bytes.length ? bytes[i] : NONE;
    }

    int parsedAt(int place) {
      return place >= 0 && place < parsed.length ? parsed[place] : Readings.UNREAD;
    }

    private void put(int b) {
      if (size >= 0 && size < bytes.length) {
        bytes[size] = b;
        size++;
      }
    }

    /** Writes the reading of a place, with the letter that carries it, or NONE. */
    void write(int reading, int carried) {
      int kind = Readings.kindOf(reading);
      // One letter alone: the bits below its bit are as many as it counts.
      int own = Integer.bitCount(Readings.mayOf(reading) - 1);
      if (kind == SIGN || kind == SURE) {
        put(shown(own));
      } else if (kind == ADDED) {
        enclose('<', own, '>');
      } else if (carried != NONE) {
        enclose('[', carried, ']');
      } else {
        put(kind == HALF ? '?' : kind == ERASED ? '#' : '-');
      }
    }

    private void enclose(int opening, int letter, int closing) {
      put(opening);
      put(shown(letter));
      put(closing);
    }

    private static int shown(int letter) {
      return letter == BLANK ? '_' : 'a' + letter;
    }

    private static int letterShown(int b) {
      return b == '_' ? BLANK : Tape.letterOf(b);
    }

    /** Takes the tape for a printed line of so many places; where it can't be one, or NONE. */
    int parse(Tape tape, int places) {
      int at = 0;
      for (int place = 0; place < places && place < parsed.length; place++) {
        int b = tape.byteAt(at);
        int closing = b == '<' ? '>' : b == '[' ? ']' : NONE;
        if (closing == NONE) {
          parsed[place] = bareReading(b);
          if (parsed[place] == Readings.UNREAD) {
            return at;
          }
          at++;
        } else {
          int letter = letterShown(tape.byteAt(at + 1));
          if (letter == NONE) {
            return at + 1;
          }
          if (tape.byteAt(at + 2) != closing) {
            return at + 2;
          }
          parsed[place] = b == '<' ? Readings.told(ADDED, letter) : Readings.told(GONE, 0);
          at += MARKED;
        }
      }
      return at < tape.size() ? at : NONE;
    }

    private static int bareReading(int b) {
      if (b == '?' || b == '-') {
        return Readings.told(GONE, 0);
      }
      if (b == '#') {
        return Readings.told(ERASED, 0);
      }
      int letter = letterShown(b);
      return letter == NONE ? Readings.UNREAD : Readings.told(SIGN, letter);
    }
  }

  /** The host's rows of bytes. */
  private static final class Trays {
    private final byte[] bytes = new byte[TRAYS * TRAY_BYTES];
    private final int[] sizes = new int[TRAYS];

    Trays() {
      Arrays.fill(sizes, NONE);
    }

    static boolean has(int tray) {
      return tray >= 0 && tray < TRAYS;
    }

    boolean isMissing(int tray) {
      return sizeOf(tray) == NONE;
    }

    private int sizeOf(int tray) {
      return has(tray) ? sizes[tray] : NONE;
    }

    void put(int tray, int n) {
      if (has(tray)) {
        sizes[tray] = n;
        Arrays.fill(bytes, tray * TRAY_BYTES, (tray + 1) * TRAY_BYTES, (byte) 0);
      }
    }

    boolean set(int tray, int i, int v) {
      if (!has(tray) || i < 0 || i >= sizeOf(tray) || i >= TRAY_BYTES) {
        return false;
      }
      bytes[tray * TRAY_BYTES + i] = (byte) v;
      return true;
    }

    /** The byte 0 .. 255 so far behind a place of the tray; NONE, if either is outside. */
    int byteAt(int tray, int from, int behind) {
      int size = sizeOf(tray);
      if (from < 0 || behind < 0 || from >= size - behind || size > TRAY_BYTES) {
        return NONE;
      }
      return bytes[tray * TRAY_BYTES + from + behind] & 255;
    }
  }
}
