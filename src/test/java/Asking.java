/** Short names for the tests' own use. */
abstract class Asking {
  static final int NONE = Due.NONE;
  static final int BAD = Due.BAD;
  static final int STATE = Due.STATE;
  static final int FULL = Due.FULL;
  static final int ANY = Due.ANY;

  static void due(String what, long got, long want) {
    Due.due(what, got, want);
  }

  static void same(String what, String got, String want) {
    Due.same(what, got, want);
  }
}
