/** What the tests of the edges share: the sentence that is asked for, and the answers that are due there. */
final class Due {
  static final int LOW = -1000000000;
  static final int BEYOND = LOW - 1;
  static final int NONE = LOW - 2;
  static final int STATE = LOW - 3;
  static final int FULL = LOW - 4;
  static final int KIND = LOW - 5;
  static final int PARTED = LOW - 6;
  static final int LEAST = Integer.MIN_VALUE;
  static final int MOST = Integer.MAX_VALUE;

  private static String sentence = "";
  private static int row = 0;
  private static int sentences = 0;
  private static int wrong = 0;

  private Due() {}

  /** Opens the test of one sentence of the document: where it stands, and its words. */
  static void of(String where, String words) {
    sentence = where + ", \"" + words + "\"";
    row = 0;
    sentences++;
  }

  /** Pairs: what was answered, what is due. */
  static void due(long... pairs) {
    row++;
    for (int i = 0; i < pairs.length; i += 2) {
      if (pairs[i] != pairs[i + 1]) {
        wrong++;
        System.out.println(sentence + ": due() number " + row + ", pair " + (i / 2 + 1) + ": answered " + pairs[i]
            + ", due is " + pairs[i + 1]);
      }
    }
  }

  static void fail(String what) {
    wrong++;
    System.out.println(sentence + ": " + what);
  }

  static void end() {
    System.out.println(wrong == 0 ? sentences + " sentences hold" : wrong + " answers are not as due");
    if (wrong != 0) System.exit(1);
  }

  /** Slates of width 1 and m 0 with so many nails, who leant on none. */
  static SlateKin with(int many, int nails) {
    SlateKin x = new SlateKin();
    for (int i = 0; i < many; i++) x.slate(0, 1, nails, -1);
    return x;
  }

  /** One slate of a kind (with m), of a width, with nails. */
  static SlateKin one(int km, int wide, int nails) {
    SlateKin x = new SlateKin();
    x.slate(km, wide, nails, -1);
    return x;
  }

  /** One slate with a HOLD of 0 to 40, not LAID: a ROBSON where a SLATE holds no more. */
  static SlateKin holding(int hold) {
    int nails = Math.min(9, hold / 3);
    return hold > 36 ? one(40 + hold - 34, 1, 9) : one(hold - 3 * nails, 1, nails);
  }

  static int feed(SlateKin x, String text) {
    int n = x.count(4);
    for (int i = 0; i < text.length(); i++) n = x.feed(text.charAt(i), 1);
    return n;
  }

  static int text(SlateKin x, int use, String text) {
    feed(x, text);
    return x.text(use);
  }

  /** So many years, however many. */
  static void years(SlateKin x, int n) {
    for (int left = n; left > 0; left -= 60) x.years(Math.min(60, left));
  }

  static long cells(int... places) {
    long set = 0;
    for (int c : places) set |= 1L << c;
    return set;
  }

  static int draw(int z) {
    return z * 1103515245 + 12345;
  }
}
