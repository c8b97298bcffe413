/** What the tests with answers worked out by hand have in common. */
class Checks {
  static final long BEYOND = -1000000001L, FULL = -1000000002L, KIND = -1000000003L, NONE = -1000000004L;
  static final long MISSING = -1000000006L, SIZE = -1000000007L;
  static final int LEAST_INT = Integer.MIN_VALUE, MOST_INT = Integer.MAX_VALUE;
  private static int wrong = 0;

  static void due(String call, long got, long want) {
    if (got != want) complain(call + " answered " + got + ", due is " + want);
  }

  static void complain(String what) {
    wrong++;
    System.out.println(what);
  }

  static void end(String good) {
    System.out.println(wrong == 0 ? good : wrong + " answers are not as due");
    if (wrong != 0) System.exit(1);
  }

  /** By fours, since an object is good for 512 calls. */
  static void feed(SmokeLeans x, String text) {
    for (int i = 0; i < text.length(); i += 4) {
      String part = text.substring(i, Math.min(i + 4, text.length()));
      int bytes = 0;
      for (char c : part.toCharArray()) bytes = bytes << 8 | c;
      x.feed(bytes, part.length());
    }
  }

  static int told(SmokeLeans x, String text) {
    feed(x, text);
    return x.house();
  }

  static SmokeLeans house(String text) {
    SmokeLeans x = new SmokeLeans();
    int items = told(x, text);
    if (items < 0) due("house of " + text, items, text.split(",").length);
    return x;
  }

  static void text(SmokeLeans x, String text, long want) { due("house() of '" + text + "'", told(x, text), want); }
}
