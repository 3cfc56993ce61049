/** Each promise by calls with the answers that are due: ordinary ones, edges, wrong ones. */
public final class PromisesTest {
  private static final int LOW = -1000000000;
  private static final int BEYOND = LOW - 1;
  private static final int NONE = LOW - 2;
  private static final int STATE = LOW - 3;
  private static final int FULL = LOW - 4;
  private static final int KIND = LOW - 5;
  private static final int PARTED = LOW - 6;
  private static final int LEAST = Integer.MIN_VALUE;
  private static final int MOST = Integer.MAX_VALUE;

  private static int promise = 0;
  private static int row = 0;
  private static int wrong = 0;

  private static void of(int number) {
    promise = number;
    row = 0;
  }

  /** Pairs: what was answered, what is due. */
  private static void due(long... pairs) {
    row++;
    for (int i = 0; i < pairs.length; i += 2) {
      if (pairs[i] != pairs[i + 1]) {
        wrong++;
        System.out.println("promise " + promise + ", due() number " + row + ", pair " + (i / 2 + 1) + ": answered "
            + pairs[i] + ", due is " + pairs[i + 1]);
      }
    }
  }

  /** Slates of width 1 with so many nails, on none leant. */
  private static SlateKin with(int many, int nails) {
    SlateKin x = new SlateKin();
    for (int i = 0; i < many; i++) x.slate(0, 1, nails, -1);
    return x;
  }

  private static int feed(SlateKin x, String text) {
    int n = x.count(4);
    for (int i = 0; i < text.length(); i++) n = x.feed(text.charAt(i), 1);
    return n;
  }

  private static int text(SlateKin x, int use, String text) {
    feed(x, text);
    return x.text(use);
  }

  /** What a text of HOLD gives with h 7, n 3, g 5. */
  private static int worth(String text) {
    SlateKin x = new SlateKin();
    return text(x, 0, text) == 1 ? x.law(0, 7, 3, 5) : LEAST;
  }

  /** What a text that is at fault answers. */
  private static int fault(String text) {
    return text(new SlateKin(), 0, text);
  }

  private static void aNewObject() {
    of(1);
    SlateKin x = new SlateKin();
    for (int what = 0; what < 7; what++) due(x.count(what), 0);
    due(x.count(7), 1, x.dry(0), 0, x.rings(), 0, x.check(), 0, x.restore(), NONE, x.body(0), NONE);
    for (int s = 0; s < 4; s++) due(x.nailed(s), NONE, x.judge(s), NONE);
    due(x.untell(0), 0, x.untell(1), 0, x.law(0, 50, 0, 0), 50, x.law(1, 50, 0, 0), 1);
    due(x.told(1), 0, x.told(2), 10, x.told(3), 0, x.told(4), 0, x.told(5), 0, x.told(6), 0, x.image(), 1);
  }

  private static void slate() {
    of(2);
    SlateKin x = new SlateKin();
    due(x.slate(0, 1, 0, -1), 0, x.slate(69, 2, 9, 0), 1, x.count(0), 2);
    due(x.slate(-1, 1, 0, -1), BEYOND, x.slate(70, 1, 0, -1), BEYOND, x.slate(LEAST, 1, 0, -1), BEYOND);
    due(x.slate(0, 0, 0, -1), BEYOND, x.slate(0, 3, 0, -1), BEYOND, x.slate(0, MOST, 0, -1), BEYOND);
    due(x.slate(0, 1, -1, -1), BEYOND, x.slate(0, 1, 10, -1), BEYOND);
    due(x.slate(0, 1, 0, -2), BEYOND, x.slate(0, 1, 0, 2), BEYOND, x.slate(0, 1, 0, MOST), BEYOND, x.count(0), 2);
    for (int i = 2; i < 10; i++) due(x.slate(10, 1, 0, i - 1), i);
    due(x.slate(0, 1, 0, 10), BEYOND, x.slate(0, 1, 0, 9), FULL, x.slate(70, 1, 0, -1), BEYOND, x.count(0), 10);
    due(x.told(4), 1);
  }

  private static void slateIs() {
    of(3);
    SlateKin x = new SlateKin();
    x.slate(5, 2, 4, -1);
    x.slate(48, 1, 3, 0);
    int[] fresh = {4, 8, 1, 3, 0, -1, -1, 0, 2, 18};
    for (int what = 0; what < 10; what++) due(x.slateIs(1, what), fresh[what]);
    x.lay(1, 3, 6);
    due(x.slateIs(1, 5), 3, x.slateIs(1, 6), 6, x.slateIs(0, 4), -1);
    x.years(2);
    due(x.slateIs(1, 7), 2);
    due(x.slateIs(1, 10), BEYOND, x.slateIs(1, -1), BEYOND, x.slateIs(2, 0), BEYOND, x.slateIs(-1, 0), BEYOND);
    due(x.slateIs(MOST, 0), BEYOND, x.slateIs(2, 10), BEYOND, x.told(1), 6);
    text(x, 0, "h+g");
    due(x.slateIs(1, 9), 18);
    broadAndHolds();
    ageByFive();
  }

  private static void ageByFive() {
    SlateKin x = new SlateKin();
    x.slate(21, 1, 0, -1);
    x.slate(51, 1, 0, -1);
    x.years(4);
    due(x.slateIs(0, 9), 1, x.slateIs(1, 9), 1, x.years(1), 5 * 48, x.slateIs(0, 9), 2, x.slateIs(1, 9), 3);
    due(x.years(4), 9 * 48, x.slateIs(0, 9), 2, x.slateIs(1, 9), 3);
  }

  private static void broadAndHolds() {
    SlateKin x = new SlateKin();
    int[] broad1 = {1, 2, 1, 1, 2, 1, 1};
    int[] broad2 = {2, 3, 2, 2, 3, 1, 2};
    int[] holds = {22, 20, 22, 22, 26, 40, 22};
    for (int kind = 0; kind < 7; kind++) x.slate(10 * kind + 4, 1, 6, -1);
    for (int kind = 0; kind < 7; kind++) due(x.slateIs(kind, 8), broad1[kind], x.slateIs(kind, 9), holds[kind]);
    x.sells(1);
    due(x.slateIs(6, 9), 0);
    x.sells(0);
    x.years(11);
    int[] older = {16, 14, 18, 18, 18, 32, 16};
    for (int kind = 0; kind < 7; kind++) due(x.slateIs(kind, 3), 4, x.slateIs(kind, 9), older[kind]);
    for (int i = 0; i < 17; i++) x.years(60);
    due(x.slateIs(2, 7), 999, x.slateIs(2, 3), 0, x.slateIs(2, 9), 99, x.slateIs(5, 9), 99, x.slateIs(3, 9), 6);
    x.become(1, 10);
    due(x.slateIs(1, 9), 0);
    SlateKin y = new SlateKin();
    for (int kind = 0; kind < 7; kind++) y.slate(10 * kind, 2, 0, -1);
    for (int kind = 0; kind < 7; kind++) due(y.slateIs(kind, 8), broad2[kind], y.slateIs(kind, 9), 0);
  }

  private static void become() {
    of(4);
    SlateKin x = with(2, 0);
    x.lay(0, 0, 0);
    x.lay(1, 0, 1);
    due(x.become(0, 17), 0, x.slateIs(0, 0), 1, x.slateIs(0, 1), 7, x.slateIs(0, 5), 0, x.slateIs(0, 6), 0);
    due(x.slateIs(0, 8), 2, x.dry(1), 4, x.over(1, 0), 3, x.become(0, 69), 1, x.become(0, 0), 6);
    due(x.become(0, -1), BEYOND, x.become(0, 70), BEYOND, x.become(2, 0), BEYOND, x.become(-1, 0), BEYOND);
    due(x.slateIs(0, 0), 0, x.told(1), 4);
  }

  private static void as() {
    of(5);
    SlateKin x = new SlateKin();
    String[] under = {"0", "01", "02", "03", "014", "025", "06"};
    for (int kind = 0; kind < 7; kind++) x.slate(10 * kind + 9 - kind, 1, 0, -1);
    for (int s = 0; s < 7; s++) {
      for (int kind = 0; kind < 7; kind++) due(x.as(s, kind), under[s].indexOf('0' + kind) < 0 ? KIND : 9 - s);
    }
    due(x.as(0, 7), BEYOND, x.as(0, -1), BEYOND, x.as(7, 0), BEYOND, x.as(-1, 0), BEYOND, x.told(5), 34);
  }

  private static void lay() {
    of(6);
    SlateKin x = new SlateKin();
    x.slate(0, 2, 0, -1);
    x.slate(0, 2, 0, 0);
    x.slate(10, 2, 0, -1);
    due(x.lay(1, 3, 3), 4, x.lay(0, 0, 0), 8, x.lay(1, 0, 5), STATE, x.lay(1, 1, 2), STATE, x.slateIs(1, 5), 3);
    due(x.lay(1, 1, 1), 7, x.lay(1, 1, 0), 6, x.lay(1, 0, 1), STATE, x.lay(1, 0, 0), STATE);
    due(x.lay(0, 5, 7), 5, x.lay(1, 4, 6), 4, x.lay(1, 4, 7), 2, x.lay(1, 4, 5), STATE);
    due(x.lay(2, 2, 6), 6, x.lay(2, 2, 7), 4, x.lay(2, 4, 5), STATE, x.lay(2, 4, 4), 8);
    due(x.lay(2, -1, 0), BEYOND, x.lay(2, 6, 0), BEYOND, x.lay(2, 0, -1), BEYOND, x.lay(2, 0, 8), BEYOND);
    due(x.lay(3, 0, 0), BEYOND, x.lay(-1, 0, 0), BEYOND, x.lay(2, MOST, 0), BEYOND, x.lay(2, 0, LEAST), BEYOND);
    due(x.slateIs(2, 5), 4, x.slateIs(2, 6), 4, x.told(1), 8, x.told(3), 6);
    SlateKin y = with(2, 0);
    due(y.lay(0, 0, 7), 2, y.lay(1, 1, 0), 4, y.lay(1, 1, 0), 4, y.lay(1, 5, 0), 3);
    SlateKin z = new SlateKin();
    z.slate(0, 1, 0, -1);
    z.slate(0, 1, 0, 0);
    z.lay(0, 2, 3);
    due(z.lay(1, 1, 3), 3, z.lay(1, 0, 3), STATE, z.lay(1, 2, 2), STATE, z.lay(1, 3, 3), 3);
  }

  private static void lift() {
    of(7);
    SlateKin x = with(2, 0);
    due(x.lift(0), STATE, x.lay(0, 0, 0), 2, x.lay(1, 1, 0), 3, x.lift(0), 2, x.lift(0), STATE, x.lift(1), 0);
    due(x.lift(2), BEYOND, x.lift(-1), BEYOND, x.slateIs(0, 5), -1, x.slateIs(0, 6), -1, x.told(3), 2);
  }

  private static void nail() {
    of(8);
    SlateKin x = with(1, 4);
    due(x.nail(0, 9), 4, x.nail(0, 0), 9, x.slateIs(0, 3), 0, x.nail(0, -1), BEYOND, x.nail(0, 10), BEYOND);
    due(x.nail(1, 1), BEYOND, x.nail(-1, 1), BEYOND, x.slateIs(0, 3), 0);
  }

  private static void sells() {
    of(9);
    SlateKin x = new SlateKin();
    due(x.sells(1), 0, x.count(2), 1, x.sells(1), 1, x.sells(2), BEYOND, x.sells(-1), BEYOND, x.count(2), 1);
    due(x.sells(0), 1, x.count(2), 0);
  }

  private static void feed() {
    of(10);
    SlateKin x = new SlateKin();
    due(x.feed(0x313233346768L, 2), 2, x.count(4), 2, x.feed(0, 0), BEYOND, x.feed(0, 9), BEYOND);
    due(x.feed(0, -1), BEYOND, x.feed(0, LEAST), BEYOND, x.text(0), -11);
    due(x.feed(0x3837362b35343332L, 8), 8, x.text(0), 1, x.law(0, 0, 0, 0), 99);
    due(x.feed(0x2d2b3736352dL, 1), 1, x.feed(0x2b68L, 1), 2, x.text(0), -10);
    for (int i = 1; i <= 7; i++) due(x.feed(-1L, 8), 8 * i);
    due(x.feed(0, 5), FULL, x.feed(0, 8), FULL, x.feed(0, 9), BEYOND, x.feed(0, 4), 60, x.feed(0, 1), FULL);
    due(x.count(4), 60, x.text(0), -10, x.count(4), 0, x.told(4), 3);
  }

  private static void text() {
    of(11);
    SlateKin x = new SlateKin();
    feed(x, "h+1");
    due(x.text(2), BEYOND, x.text(-1), BEYOND, x.count(4), 3, x.text(0), 1, x.count(4), 0, x.law(0, 5, 0, 0), 6);
    due(text(x, 0, "h+"), -12, x.count(4), 0, x.law(0, 5, 0, 0), 6, text(x, 0, "h+2"), 1, x.law(0, 5, 0, 0), 7);
    due(text(x, 1, "r*c+y"), 1, x.law(1, 3, 4, 5), 17, text(x, 1, "h"), -10, x.told(1), 2);
    due(worth("h"), 7, worth("n"), 3, worth("g"), 5, worth("h-n-g"), 0, worth("g-n-1"), 1, worth("h*n+g*2"), 31);
    due(worth("1|0&0"), 1, worth("0|0"), 0, worth("7|0"), 1, worth("0|9"), 1, worth("7&9"), 1, worth("7&0"), 0);
    due(worth("1+1<3&2"), 1, worth("n<n"), 0, worth("g>n"), 1, worth("n>g"), 0, worth("n<g"), 1, worth("3=n"), 1);
    due(worth("3=g"), 0, worth("2*3%4"), 2, worth("7/2*2"), 6, worth("7%4/2"), 1, worth("9/0"), 0, worth("9%0"), 0);
    due(worth("0-7/2+9"), 6, worth("9+(0-7)%4"), 6, worth("9+(0-7)/4"), 8, worth("!0"), 1, worth("!7"), 0);
    due(worth("!!7"), 1, worth("!0+1"), 2, worth("!(1-1)*5"), 5, worth("(((((7)))))"), 7, worth("0007"), 7);
    due(worth("9999*9999*9999>0"), 0, worth("99999"), LEAST, worth("9999*9999*99<0"), 0, worth("4-(3-2)"), 3);
    due(worth("1<2=1"), LEAST, worth("(1<2)=1"), 1, worth("1<2&2<3|0"), 1, worth("40/4/2"), 5, worth("2=2&3"), 1);
    faults();
  }

  private static void faults() {
    due(fault(""), -10, fault("h+c"), -12, fault("h)"), -11, fault("(h"), -12, fault("()"), -11, fault("1<2<3"), -13);
    due(fault("12345"), -14, fault("12h"), -12, fault("h1"), -11, fault("+h"), -10, fault("h n"), -11);
    due(fault("h||n"), -12, fault("((((((1))))))"), -15, fault("!!!!!!1"), -15, fault("!(!(!(1)))"), -15);
    due(fault("!(!(!1))"), 1, fault("!!!!!1+!!!!!1"), 1, fault("(!!!!1)*(((((2)))))"), 1, fault("(!1)*((((((2))))))"), -20, fault("((((!1+!1))))"), 1);
    due(fault("(1<2"), -14, fault("(1<2>3)"), -14, fault("(1<2)>(3<4)"), 1, fault("1<(2<3)<4"), -17, fault("h="), -12);
    due(fault("" + (char) 255), -10, fault("h" + (char) 200), -11, fault("h" + (char) 0), -11, fault("H"), -10);
    String full = "1+1+1+1+1+1+1+1+1+1+1+1+1+1+1+1+1+1+1+1+1+1+1+1+1+1+1+1+1+1";
    due(fault(full), 1, fault(full + "+"), -70, fault(full + "1"), 1, worth(full), 30);
  }

  private static void untell() {
    of(12);
    SlateKin x = new SlateKin();
    text(x, 0, "5");
    due(x.law(0, 9, 0, 0), 5, x.untell(1), 0, x.untell(0), 1, x.untell(0), 0, x.law(0, 9, 0, 0), 9);
    due(x.untell(2), BEYOND, x.untell(-1), BEYOND);
    text(x, 1, "6");
    due(x.untell(0), 0, x.law(1, 0, 0, 0), 6, x.untell(1), 1, x.law(1, 0, 0, 0), 1);
  }

  private static void law() {
    of(13);
    SlateKin x = new SlateKin();
    due(x.law(0, 98, 5, 6), 98, x.law(0, 100, 0, 0), 99, x.law(0, -1, 0, 0), 0, x.law(0, LEAST, 0, 0), 0);
    due(x.law(1, 7, 8, 9), 1, x.law(2, 0, 0, 0), BEYOND, x.law(-1, 0, 0, 0), BEYOND);
    text(x, 0, "h/n+g");
    due(x.law(0, 90, 9, 3), 13, x.law(0, LEAST, -1, 0), 0, x.law(0, MOST, -1, 0), 0, x.law(0, MOST, 1, 1), 0);
    text(x, 1, "r-c*y");
    due(x.law(1, 50, 2, 3), 44, x.law(1, 0, 1, 1), 0, x.law(1, 200, 1, 1), 99);
  }

  private static void gale() {
    of(14);
    SlateKin x = with(5, 1);
    x.slate(0, 2, 3, -1);
    due(x.lay(0, 0, 0), 2, x.lay(1, 1, 0), 3, x.lay(5, 0, 4), 7, x.lay(2, 1, 5), 8, x.lay(3, 2, 5), 9);
    due(x.gale(3), 0, x.gale(4), 3, x.slateIs(0, 5), -1, x.slateIs(1, 6), -1, x.slateIs(2, 5), 1);
    due(x.gale(9), 0, x.gale(10), 44, x.dry(1), 0, x.gale(40), 0);
    due(x.gale(41), BEYOND, x.gale(-1), BEYOND, x.gale(0), 0, x.gale(MOST), BEYOND);
    SlateKin y = with(3, 0);
    y.nail(0, 9);
    y.lay(0, 0, 0);
    y.lay(1, 2, 0);
    due(y.gale(9), 2, y.lay(1, 1, 1), 4, y.gale(9), 2, y.lay(1, 1, 0), 3, y.lay(2, 2, 0), 4, y.gale(27), 0);
    text(y, 0, "g-(g>8)");
    due(y.gale(8), 0, y.gale(9), 7);
    sameRowDoesNotKeep();
    twoOfARowKeep();
    tenSlates();
  }

  private static void tenSlates() {
    SlateKin x = with(10, 0);
    for (int i = 0; i < 10; i++) x.lay(i, i < 5 ? 0 : 1, i % 5);
    due(x.dry(1), 15, x.rings(), 8, x.over(12, 0), 16 + 512, x.over(20, 1), 16 + 512, x.fast(1, 1), 31);
    due(x.lifts(1, 0), 1023, x.best(9, 0), 5, x.odds(20, 0), 1, x.odds(20, 1), 40, x.nail(4, 9), 0);
    due(x.lifts(27, 0), 1023 - 16 - 512, x.years(1), 33, x.gale(1), 1023 - 16 - 512, x.loose(1), 0);
  }

  private static void twoOfARowKeep() {
    SlateKin x = with(4, 0);
    x.nail(0, 9);
    x.nail(1, 9);
    x.lay(0, 2, 2);
    x.lay(1, 2, 3);
    x.lay(2, 3, 2);
    x.lay(3, 3, 3);
    due(x.gale(9), 0, x.fast(28, 1), 3, x.over(34, 1), 5, x.over(35, 1), 10, x.gale(28), 15);
  }

  private static void sameRowDoesNotKeep() {
    SlateKin x = with(2, 0);
    x.nail(0, 9);
    x.lay(0, 0, 0);
    x.lay(1, 0, 1);
    x.become(0, 10);
    due(x.over(1, 0), 3, x.gale(5), 2);
  }

  private static void years() {
    of(15);
    SlateKin x = new SlateKin();
    x.slate(5, 2, 2, -1);
    due(x.lay(0, 0, 0), 4, x.years(1), 44, x.count(1), 1, x.count(3), 44, x.slateIs(0, 7), 1, x.slateIs(0, 3), 2);
    due(x.years(2), 132, x.slateIs(0, 3), 2, x.years(1), 176, x.slateIs(0, 3), 1, x.years(4), 352, x.slateIs(0, 3), 0);
    due(x.years(4), 528, x.slateIs(0, 3), 0, x.slateIs(0, 7), 12, x.slateIs(0, 5), 0);
    due(x.years(0), BEYOND, x.years(61), BEYOND, x.years(-1), BEYOND, x.years(LEAST), BEYOND, x.count(1), 12);
    text(x, 1, "r*8+c+y*100");
    due(x.years(1), 528 + 44 * 99);
    text(x, 1, "r*8+c");
    due(x.years(1), 528 + 44 * 99 + 47 * 24 - 18);
    text(x, 1, "(y=14)*(r=5)*(c=7)-(r=4)");
    due(x.years(2), 528 + 44 * 99 + 47 * 24 - 18 + 1);
    theLastYear();
  }

  private static void theLastYear() {
    SlateKin x = with(1, 0);
    text(x, 1, "99");
    due(x.years(21), 21 * 4752, x.years(1), 99999);
    due(x.years(60), 99999, x.count(1), 82);
    for (int i = 0; i < 165; i++) x.years(60);
    due(x.count(1), 9982, x.slateIs(0, 7), 999, x.years(18), STATE, x.loose(18), STATE, x.years(61), BEYOND);
    due(x.count(1), 9982, x.years(16), 99999, x.count(1), 9998, x.loose(2), STATE, x.loose(21), BEYOND);
    x.loose(1);
    due(x.count(1), 9999, x.years(1), STATE, x.loose(1), STATE, x.count(1), 9999, x.told(3), 5);
    SlateKin y = new SlateKin();
    for (int i = 0; i < 166; i++) y.years(60);
    due(y.count(1), 9960, y.years(40), STATE, y.years(39), 99999, y.count(1), 9999);
  }

  private static void loose() {
    of(16);
    SlateKin x = new SlateKin();
    due(x.loose(3), 0, x.count(7), draws(1, 3), x.count(3), 144, x.count(1), 3);
    x.slate(0, 1, 3, -1);
    due(x.seed(5), draws(1, 3), x.loose(1), 0, x.count(7), draws(5, 3));
    int cell = (draws(5, 3) >>> 8) % 48;
    due(x.slateIs(0, 5), cell / 8, x.slateIs(0, 6), cell % 8, x.slateIs(0, 7), 1, x.slateIs(0, 3), 2);
    int g = (draws(5, 4) >>> 8) % 40;
    due(x.loose(1), g > 6 ? 1 : 0);
    due(x.loose(0), BEYOND, x.loose(21), BEYOND, x.loose(-1), BEYOND, x.count(1), 5);
    allThatWasLifted();
    yearByYear();
  }

  private static int draws(int z, int many) {
    int v = z;
    for (int i = 0; i < many; i++) v = v * 1103515245 + 12345;
    return v;
  }

  private static void allThatWasLifted() {
    SlateKin x = with(10, 0);
    SlateKin y = with(10, 0);
    int all = 0;
    for (int i = 0; i < 20; i++) all |= y.loose(1);
    due(x.loose(20), all, x.count(7), y.count(7), x.dry(0), y.dry(0), x.count(3), y.count(3));
    due(Integer.bitCount(all) > 3 ? 1 : 0, 1);
  }

  /** A year by draws, told by the other calls. */
  private static void yearByYear() {
    SlateKin x = with(4, 3);
    SlateKin y = with(4, 3);
    x.become(2, 40);
    y.become(2, 40);
    for (int i = 0; i < 50; i++) {
      int z = y.count(7);
      int gone = y.gale((draws(z, 1) >>> 8) % 40);
      int slate = (draws(z, 2) >>> 8) % 4;
      int cell = (draws(z, 3) >>> 8) % 48;
      if (y.slateIs(slate, 5) < 0) y.lay(slate, cell / 8, cell % 8);
      y.seed(draws(z, 3));
      y.years(1);
      due(x.loose(1), gone, x.dry(0), y.dry(0), x.count(3), y.count(3), x.count(7), y.count(7));
      if (i % 5 == 0) due(x.nail(slate, i / 10), y.nail(slate, i / 10));
    }
  }

  private static void seed() {
    of(17);
    SlateKin x = new SlateKin();
    due(x.seed(LEAST), 1, x.seed(BEYOND), LEAST, x.seed(MOST), BEYOND, x.count(7), MOST, x.told(1), 0);
  }

  private static void dry() {
    of(18);
    SlateKin x = with(10, 0);
    due(x.dry(0), 0, x.dry(1), 0, x.dry(2), 0, x.dry(3), BEYOND, x.dry(-1), BEYOND);
    x.lay(0, 0, 0);
    x.lay(1, 0, 1);
    x.lay(2, 5, 7);
    due(x.dry(0), 3L | 3L << 8 | 1L << 47, x.dry(1), 5, x.dry(2), 2);
    SlateKin y = new SlateKin();
    for (int i = 0; i < 10; i++) y.slate(10, 2, 0, -1);
    for (int i = 0; i < 9; i++) due(y.lay(i, i / 3 * 2, i % 3 * 3), 16 * (i / 3) + Math.min(16, 6 * (i % 3 + 1)));
    due(y.dry(0), (1L << 48) - 1, y.dry(1), 48, y.dry(2), NONE, y.lift(8), 44, y.dry(2), 38, y.told(2), 1);
  }

  private static void over() {
    of(19);
    SlateKin x = new SlateKin();
    x.slate(0, 2, 0, -1);
    x.slate(0, 1, 0, -1);
    x.slate(0, 2, 0, -1);
    x.slate(0, 1, 0, -1);
    x.lay(0, 0, 0);
    x.lay(1, 1, 1);
    x.lay(2, 2, 0);
    x.lay(3, 1, 0);
    due(x.over(0, 0), 1, x.over(8, 0), 9, x.over(9, 0), 3, x.over(17, 0), 6, x.over(25, 0), 4, x.over(2, 0), 0);
    due(x.over(0, 1), 1, x.over(25, 1), 15, x.over(9, 1), 3, x.over(26, 1), 0, x.over(17, 1), 15);
    x.lift(0);
    due(x.over(25, 1), 14, x.lift(1), 5, x.over(25, 1), 12);
    due(x.over(48, 0), BEYOND, x.over(-1, 1), BEYOND, x.over(0, 2), BEYOND, x.over(0, -1), BEYOND, x.over(47, 1), 0);
    SlateKin y = with(6, 0);
    for (int i = 0; i < 6; i++) y.lay(i, 5 - i, 0);
    due(y.over(40, 1), 63, y.over(32, 1), 62, y.over(0, 1), 32, y.lift(2), 6, y.over(40, 1), 3);
  }

  private static void lifts() {
    of(20);
    SlateKin x = with(3, 1);
    x.nail(0, 3);
    x.lay(0, 0, 0);
    x.lay(1, 1, 0);
    x.lay(2, 3, 3);
    due(x.lifts(3, 0), 0, x.lifts(3, 1), 5, x.lifts(4, 0), 4, x.lifts(4, 1), 3, x.lifts(9, 0), 4, x.lifts(10, 0), 7);
    due(x.lifts(10, 1), 0, x.dry(1), 5, x.lifts(40, 0), 7, x.lifts(0, 1), 5);
    due(x.lifts(41, 0), BEYOND, x.lifts(-1, 0), BEYOND, x.lifts(0, 2), BEYOND, x.lifts(0, -1), BEYOND);
  }

  private static void fast() {
    of(21);
    SlateKin x = with(4, 1);
    x.nail(0, 3);
    x.lay(0, 0, 0);
    x.lay(1, 1, 0);
    x.lay(2, 3, 3);
    due(x.fast(3, 0), 0, x.fast(3, 1), 0, x.fast(4, 0), 1, x.fast(4, 1), 4, x.fast(10, 0), 2, x.fast(10, 1), 5);
    due(x.lift(0), 4, x.fast(4, 1), 6, x.lay(0, 0, 1), 6, x.fast(4, 1), 6, x.fast(40, 0), 3, x.fast(0, 0), 0);
    due(x.fast(41, 0), BEYOND, x.fast(-1, 0), BEYOND, x.fast(0, 2), BEYOND, x.fast(0, -1), BEYOND, x.dry(1), 6);
  }

  private static void best() {
    of(22);
    SlateKin x = new SlateKin();
    x.slate(0, 2, 0, -1);
    x.slate(0, 2, 0, 0);
    due(x.best(0, 0), 0, x.best(0, 1), 4, x.best(1, 0), 0);
    x.lay(0, 2, 0);
    due(x.best(1, 0), 9, x.best(1, 1), 7, x.best(0, 0), 0, x.best(0, 1), 4, x.slateIs(0, 5), 2, x.slateIs(1, 5), -1);
    x.lay(0, 0, 7);
    due(x.best(1, 0), 14, x.best(1, 1), 5);
    x.lay(0, 0, 0);
    x.lay(1, 1, 1);
    due(x.best(0, 0), 3, x.best(0, 1), 8);
    due(x.best(2, 0), BEYOND, x.best(-1, 0), BEYOND, x.best(0, 2), BEYOND, x.best(0, -1), BEYOND, x.told(2), 0);
    SlateKin w = with(3, 0);
    w.lay(1, 0, 0);
    w.lay(2, 0, 1);
    due(w.best(1, 0), 0, w.best(1, 1), 4, w.best(2, 0), 1, w.best(2, 1), 4, w.best(0, 0), 2, w.best(0, 1), 6);
    SlateKin y = new SlateKin();
    y.slate(0, 1, 0, -1);
    y.slate(0, 1, 0, 0);
    y.slate(0, 1, 0, -1);
    y.lay(0, 0, 0);
    y.lay(2, 1, 0);
    due(y.best(1, 0), NONE, y.best(1, 1), NONE, y.lift(2), 2, y.best(1, 0), 8, y.best(1, 1), 3, y.told(2), 2);
  }

  private static void rings() {
    of(23);
    SlateKin x = new SlateKin();
    x.slate(0, 2, 0, -1);
    x.slate(0, 1, 0, 0);
    x.slate(0, 1, 0, -1);
    x.slate(10, 2, 0, -1);
    due(x.lay(1, 0, 2), 2, x.lay(0, 0, 0), 6, x.rings(), 0, x.lay(2, 0, 3), 8, x.rings(), 1);
    due(x.lay(3, 0, 4), 14, x.rings(), 2, x.lay(3, 0, 5), 14, x.rings(), 1, x.lay(3, 1, 4), 14, x.rings(), 1);
    due(x.become(2, 10), 0, x.rings(), 1, x.lay(3, 0, 5), 16, x.rings(), 2);
    SlateKin y = with(2, 0);
    y.lay(0, 0, 7);
    y.lay(1, 1, 0);
    due(y.rings(), 0, y.lift(0), 2, y.lift(1), 0, y.rings(), 0);
  }

  private static void odds() {
    of(24);
    SlateKin x = with(2, 4);
    x.nail(1, 0);
    x.lay(0, 0, 0);
    x.lay(1, 1, 0);
    due(x.odds(0, 0), 13, x.odds(0, 1), 40, x.odds(8, 0), 13, x.odds(16, 0), 13, x.odds(24, 0), 0, x.odds(24, 1), 1);
    x.nail(0, 5);
    due(x.odds(0, 0), 2, x.odds(0, 1), 5, x.nail(0, 9), 5, x.odds(0, 0), 7, x.odds(0, 1), 10);
    text(x, 0, "g");
    due(x.odds(0, 0), 1, x.odds(0, 1), 1);
    text(x, 0, "(g=39)*39");
    due(x.odds(0, 0), 1, x.odds(0, 1), 20);
    due(x.odds(48, 0), BEYOND, x.odds(-1, 0), BEYOND, x.odds(0, 2), BEYOND, x.odds(0, -1), BEYOND, x.dry(1), 3);
  }

  private static void fits() {
    of(25);
    SlateKin x = with(2, 4);
    x.nail(1, 2);
    x.lay(0, 0, 0);
    x.lay(1, 4, 3);
    due(x.fits(0, 0), NONE, x.fits(0, 1), NONE, x.fits(4, 0), BEYOND, x.fits(-1, 0), BEYOND, x.fits(0, 2), BEYOND);
    x.sheet(0, 8, 6);
    due(x.fits(0, 0), 28, x.fits(0, 1), 13, x.put(0, 0, 1), 1, x.put(0, 1, 1), 1, x.fits(0, 0), 6, x.fits(0, 1), 7);
    due(x.put(0, 4, 1), 1, x.fits(0, 0), 0, x.fits(0, 1), NONE, x.put(0, 5, 1), 1, x.fits(0, 0), 7, x.fits(0, 1), 0);
    x.sheet(0, 16, 1);
    due(x.fits(0, 0), 28, x.put(0, 0, 1), 1, x.fits(0, 0), 13, x.put(0, 0, -1), 1, x.fits(0, 0), 0);
    x.sheet(1, 32, 0);
    due(x.fits(1, 0), 41, x.fits(1, 1), 0, x.sheet(1, 32, 7), 1, x.fits(1, 0), 0, x.fits(1, -1), BEYOND);
    due(x.fits(2, 3), BEYOND, x.dry(1), 4);
  }

  private static void voice() {
    of(26);
    SlateKin x = new SlateKin();
    int[] ms = {3, 5, 7, 1, 9, 2, 8};
    for (int kind = 0; kind < 7; kind++) x.slate(10 * kind + ms[kind], 1, 0, -1);
    int[] drips = {20, 17, 22, 23, 60, 25, 9};
    int[] rings = {40, 34, -44, 46, 120, -52, 26};
    int[] creaks = {37, 29, -51, 25, 111 ^ 4, -54, 18};
    int[] parts = {6, 5 - 4, 4, -10, 4 + 6, -6, 10};
    for (int s = 0; s < 7; s++) {
      due(x.voice(s, 0, 20), drips[s], x.voice(s, 1, 20), rings[s], x.voice(s, 2, 20), creaks[s]);
      due(x.voice(s, 3, 20), parts[s]);
    }
    due(x.voice(0, 0, MOST), MOST, x.voice(1, 0, MOST), MOST - 3, x.voice(5, 0, MOST), LEAST + 4);
    due(x.voice(0, 1, BEYOND / 2 - 1), BEYOND - 1, x.voice(3, 2, -7), -1, x.told(1), 0, x.told(2), 0);
    due(x.voice(7, 0, 0), BEYOND, x.voice(-1, 0, 0), BEYOND, x.voice(0, 4, 0), BEYOND, x.voice(0, -1, 0), BEYOND);
    x.become(1, 11);
    due(x.voice(1, 3, 5), PARTED, x.become(6, 65), 6, x.voice(6, 3, LEAST), LEAST, x.become(4, 44), 4);
    due(x.voice(4, 3, 9), PARTED, x.told(6), 2, x.become(6, 66), 6, x.voice(6, 3, 0), PARTED, x.voice(6, 1, 0), 24);
  }

  private static void trace(SlateKin x, int slate, int voice, int... bodies) {
    x.voice(slate, voice, 9);
    due(x.count(6), bodies.length);
    for (int i = 0; i < bodies.length; i++) due(x.body(i), bodies[i]);
    due(x.body(bodies.length), NONE);
  }

  private static void body() {
    of(27);
    SlateKin x = new SlateKin();
    due(x.body(0), NONE, x.body(-1), NONE, x.body(LEAST), NONE, x.body(MOST), NONE, x.body(29), NONE);
    for (int kind = 0; kind < 7; kind++) x.slate(10 * kind + 9, 1, 0, -1);
    trace(x, 0, 2, 12, 11, 10);
    trace(x, 0, 3, 13);
    trace(x, 1, 1, 11, 20, 10);
    trace(x, 1, 3, 21, 13, 11, 20, 10);
    trace(x, 2, 2, 12, 30, 11, 10);
    trace(x, 3, 2, 40, 12, 11, 10);
    trace(x, 4, 2, 51, 12, 11, 50, 20, 10);
    trace(x, 4, 3, 21, 13, 11, 50, 20, 10);
    trace(x, 5, 1, 60, 30, 11, 10);
    trace(x, 6, 2, 12, 71, 11, 70);
    trace(x, 6, 0, 70);
    due(x.voice(7, 0, 0), BEYOND, x.count(6), 1, x.body(0), 70);
    x.become(4, 44);
    trace(x, 4, 3, 21, 13);
    due(x.told(6), 1);
  }

  private static void sheet() {
    of(28);
    SlateKin x = new SlateKin();
    due(x.sheet(0, 8, 24), 1, x.sheet(3, 32, 0), 1, x.put(0, 23, 5), 1, x.sheet(0, 16, 24), 1, x.fits(0, 0), 0);
    due(x.sheet(0, 16, 1), 1, x.put(0, 1, 0), BEYOND, x.put(0, 0, 1), 1, x.sheet(0, 16, 1), 1, x.fits(0, 0), 41);
    due(x.sheet(0, 8, 25), BEYOND, x.sheet(0, 8, -1), STATE, x.sheet(0, 7, -1), BEYOND, x.sheet(4, 8, -1), BEYOND);
    due(x.sheet(-1, 8, 1), BEYOND, x.sheet(0, 64, 1), BEYOND, x.sheet(0, -8, 1), BEYOND, x.sheet(0, 8, MOST), BEYOND);
    due(x.sheet(0, 8, LEAST), STATE, x.fits(0, 0), 41, x.sheet(0, 0, -5), 1, x.fits(0, 0), NONE);
    due(x.sheet(0, 0, 99), 1, x.sheet(4, 0, 0), BEYOND, x.sheet(1, 24, 0), BEYOND, x.told(3), 2);
  }

  private static void put() {
    of(29);
    SlateKin x = with(2, 0);
    due(x.put(4, 0, 0), BEYOND, x.put(-1, 9, 0), BEYOND, x.put(0, 99, 0), NONE);
    x.sheet(0, 8, 2);
    due(x.put(0, 2, 0), BEYOND, x.put(0, -1, 0), BEYOND, x.put(0, MOST, 0), BEYOND);
    due(x.put(0, 0, 255), 1, x.put(0, 1, -1), 1, x.judge(0), 2, x.put(0, 0, 256 + 9), 1, x.put(0, 1, 0x7F05), 1);
    due(x.nailed(0), 2, x.slateIs(0, 3), 9, x.slateIs(1, 3), 5);
    x.sheet(1, 16, 2);
    due(x.put(1, 0, 65535), 1, x.put(1, 1, 255), 1, x.judge(1), 1, x.put(1, 0, 65536 + 3), 1, x.nailed(1), 1);
    x.sheet(2, 32, 1);
    due(x.put(2, 0, 65535), 1, x.judge(2), 0, x.put(2, 0, -1), 1, x.judge(2), 1, x.put(2, 0, 65536), 1, x.nailed(2), 0);
  }

  private static void move() {
    of(30);
    SlateKin x = with(8, 0);
    x.sheet(0, 8, 4);
    x.sheet(1, 8, 6);
    x.sheet(2, 16, 4);
    for (int i = 0; i < 4; i++) x.put(0, i, i + 1);
    due(x.move(0, 0, 0, 1, 3), 3, x.nailed(0), 4, nails(x), 1123, x.move(0, 1, 0, 0, 3), 3, x.nailed(0), 4);
    due(nails(x), 1233, x.move(0, 1, 1, 4, 2), 2, x.nailed(1), 6, x.slateIs(4, 3), 2, x.slateIs(5, 3), 3, nails(x), 0);
    due(x.move(0, 0, 1, 0, 4), 4, x.move(0, 4, 1, 6, 0), 0, x.move(0, 5, 1, 0, 0), BEYOND);
    due(x.move(0, 0, 1, 7, 0), BEYOND, x.move(0, 1, 1, 0, 4), BEYOND, x.move(0, 0, 1, 3, 4), BEYOND);
    due(x.move(0, -1, 1, 0, 1), BEYOND, x.move(0, 0, 1, -1, 1), BEYOND, x.move(0, 0, 1, 0, -1), BEYOND);
    due(x.move(0, MOST, 1, 0, 1), BEYOND, x.move(0, 0, 1, MOST, MOST), BEYOND, x.move(0, 0, 1, 0, LEAST), BEYOND);
    due(x.move(4, 0, 3, 0, 1), BEYOND, x.move(3, 0, 4, 0, 1), BEYOND, x.move(-1, 0, 0, 0, 1), BEYOND);
    due(x.move(0, 0, -1, 0, 0), BEYOND, x.move(3, 0, 0, 0, -1), NONE, x.move(0, 0, 3, 0, -1), NONE);
    due(x.move(0, 0, 2, 0, -1), KIND, x.move(2, 0, 0, 0, 1), KIND, x.move(2, 0, 2, 1, 3), 3, x.told(5), 2);
  }

  /** The nails of slates 0 to 3, as the digits of a number. */
  private static int nails(SlateKin x) {
    int n = 0;
    for (int i = 0; i < 4; i++) n = n * 10 + x.slateIs(i, 3);
    if (x.slateIs(4, 3) != 0) n = 0;
    return n;
  }

  private static void nailed() {
    of(31);
    SlateKin x = with(3, 5);
    x.sheet(0, 32, 4);
    due(x.nailed(0), 3, x.slateIs(2, 3), 0, x.put(0, 0, 9), 1, x.put(0, 1, 10), 1, x.put(0, 2, 7), 1, x.nailed(0), 1);
    due(x.slateIs(0, 3), 9, x.slateIs(1, 3), 0, x.slateIs(2, 3), 0, x.put(0, 1, -1), 1, x.nailed(0), 1);
    due(x.nailed(1), NONE, x.nailed(4), BEYOND, x.nailed(-1), BEYOND, x.told(1), 2);
    x.sheet(0, 8, 2);
    due(x.put(0, 0, 1), 1, x.put(0, 1, 2), 1, x.nailed(0), 2, x.slateIs(1, 3), 2, x.slateIs(2, 3), 0);
    SlateKin y = new SlateKin();
    y.sheet(0, 8, 3);
    due(y.nailed(0), 0);
  }

  private static void judge() {
    of(32);
    SlateKin x = with(3, 0);
    x.sheet(0, 8, 4);
    x.lay(0, 5, 7);
    x.lay(2, 0, 0);
    due(x.judge(0), 0, x.put(0, 0, 47), 1, x.judge(0), 1, x.put(0, 1, -1), 1, x.judge(0), 3, x.put(0, 0, 46), 1);
    due(x.judge(0), 0, x.judge(1), NONE, x.judge(4), BEYOND, x.judge(-1), BEYOND, x.slateIs(0, 6), 7);
    x.lay(1, 0, 2);
    x.lay(2, 0, 0);
    x.sheet(0, 8, 2);
    due(x.put(0, 0, 47), 1, x.put(0, 1, 2), 1, x.judge(0), 2);
    x.sheet(1, 16, 24);
    for (int i = 0; i < 24; i++) x.put(1, i, -1);
    due(x.lift(0), 4, x.lift(1), 2, x.judge(1), 2, x.gale(1), 4, x.judge(1), 3);
  }

  private static void image() {
    of(33);
    SlateKin x = new SlateKin();
    due(x.image(), 1, x.image(), 2, x.slate(11, 2, 5, -1), 0, x.image(), 3);
    x.nail(0, 1);
    due(x.image(), 4, x.nail(0, 2), 1, x.restore(), 0, x.slateIs(0, 3), 1, x.image(), 5);
  }

  private static void restore() {
    of(34);
    SlateKin x = new SlateKin();
    due(x.restore(), NONE);
    x.slate(11, 2, 5, -1);
    x.slate(5, 1, 6, 0);
    x.lay(0, 1, 1);
    x.years(3);
    x.sells(1);
    x.tell(3);
    x.tell(4);
    text(x, 0, "h+2");
    text(x, 1, "2");
    feed(x, "h+3");
    x.seed(8);
    due(x.image(), 1);
    x.slate(20, 1, 1, -1);
    x.become(0, 68);
    x.lift(0);
    x.years(9);
    x.sells(0);
    x.tell(9);
    x.check();
    x.tell(3);
    text(x, 1, "");
    text(x, 0, "g");
    x.untell(1);
    x.seed(9);
    x.sheet(0, 8, 1);
    x.voice(0, 0, 0);
    for (int twice = 0; twice < 2; twice++) {
      due(x.restore(), 3, x.count(0), 2, x.count(1), 3, x.count(2), 1, x.count(3), 3 * 42, x.count(4), 3);
      due(x.count(5), 2, x.count(6), 1, x.body(0), 70, x.count(7), 8, x.judge(0), 0, x.told(2), 1);
      int[] first = {1, 1, 2, 5, -1, 1, 1, 3, 3, 16};
      int[] second = {0, 5, 1, 6, 0, -1, -1, 3, 1, 25};
      for (int what = 0; what < 10; what++) due(x.slateIs(0, what), first[what], x.slateIs(1, what), second[what]);
      due(x.law(1, 0, 0, 0), 2, x.check(), 2, x.text(0), 1, x.law(0, 5, 0, 0), 8, x.slateIs(2, 0), BEYOND);
      due(x.years(1), 3 * 42 + 2 * 42, x.untell(1), 1, x.slate(69, 2, 9, 1), 2);
    }
    due(x.image(), 2);
  }

  private static void tell() {
    of(35);
    SlateKin x = new SlateKin();
    for (int i = 1; i <= 24; i++) due(x.tell(LEAST), i);
    due(x.tell(0), FULL, x.count(5), 24, x.check(), 1, x.tell(0), 1, x.told(4), 1);
  }

  private static void check() {
    of(36);
    SlateKin x = with(3, 0);
    x.years(4);
    due(x.check(), 0, x.tell(4), 1, x.check(), 0, x.count(5), 0);
    due(x.tell(4), 1, x.tell(4), 2, x.tell(4), 3, x.check(), 0, x.tell(4), 1, x.tell(3), 2, x.tell(3), 3, x.check(), 2);
    due(x.count(5), 0, x.tell(5), 1, x.check(), 1, x.check(), 0);
    due(x.tell(4), 1, x.tell(4), 2, x.tell(4), 3, x.tell(4), 4, x.check(), 4, x.slateIs(0, 7), 4);
    SlateKin y = new SlateKin();
    due(y.tell(0), 1, y.check(), 1, y.slate(0, 1, 0, -1), 0, y.tell(0), 1, y.tell(0), 2, y.check(), 2);
  }

  private static void count() {
    of(37);
    SlateKin x = with(3, 0);
    x.years(2);
    x.sells(1);
    x.feed(0, 7);
    x.tell(0);
    x.voice(0, 2, 0);
    x.seed(-5);
    due(x.count(0), 3, x.count(1), 2, x.count(2), 1, x.count(3), 96, x.count(4), 7, x.count(5), 1, x.count(6), 3);
    due(x.count(7), -5, x.count(8), BEYOND, x.count(-1), BEYOND, x.seed(BEYOND), -5, x.count(7), BEYOND, x.told(1), 2);
  }

  private static void told() {
    of(38);
    SlateKin x = with(1, 0);
    x.lift(1);
    x.restore();
    x.restore();
    x.lift(0);
    x.lift(0);
    x.lift(0);
    for (int i = 0; i < 4 + 24; i++) x.tell(0);
    for (int i = 0; i < 5; i++) x.as(0, 1);
    for (int i = 0; i < 6; i++) x.voice(0, 3, 1);
    for (int k = 1; k <= 6; k++) due(x.told(k), k);
    due(x.told(0), BEYOND, x.told(7), BEYOND, x.told(-1), BEYOND, x.told(LEAST), BEYOND, x.told(1), 5);
    everyErrorIsCounted();
    due(x.dry(7), BEYOND, x.told(1), 6, x.image(), 1, x.restore(), 0, x.told(1), 6, x.text(0), -10, x.told(1), 6);
  }

  private static void everyErrorIsCounted() {
    SlateKin x = with(10, 0);
    x.sheet(1, 8, 1);
    x.sheet(2, 16, 1);
    int[] beyond = {x.slate(70, 1, 0, -1), x.slateIs(10, 0), x.slateIs(0, 10), x.become(10, 0), x.as(10, 0),
        x.lay(10, 0, 0), x.lift(10), x.nail(10, 0), x.sells(2), x.feed(0, 0), x.text(2), x.untell(2), x.law(2, 0, 0, 0),
        x.gale(41), x.years(0), x.loose(0), (int) x.dry(3), x.over(48, 0), x.lifts(41, 0), x.fast(41, 0), x.best(10, 0),
        x.odds(48, 0), x.fits(4, 0), x.voice(10, 0, 0), x.sheet(4, 8, 1), x.sheet(0, 8, 25), x.put(4, 0, 0),
        x.put(1, 1, 0), x.move(4, 0, 0, 0, 0), x.move(1, 0, 1, 0, 2), x.nailed(4), x.judge(4), x.count(8), x.told(0)};
    due(x.told(1), beyond.length);
    for (int answer : beyond) due(answer, BEYOND);
    int[] none = {x.restore(), x.body(0), x.fits(0, 0), x.put(0, 0, 0), x.move(0, 0, 1, 0, 0), x.nailed(0), x.judge(0)};
    due(x.told(2), none.length, x.put(1, 0, 9), 1, x.fits(1, 1), NONE, x.told(2), none.length + 1);
    for (int answer : none) due(answer, NONE);
    due(x.lift(0), STATE, x.sheet(0, 8, -1), STATE, x.told(3), 2, x.lay(0, 0, 0), 2, x.lay(1, 0, 0), STATE);
    due(x.told(3), 3, x.slate(0, 1, 0, -1), FULL, x.told(4), 1, x.as(0, 1), KIND, x.move(1, 0, 2, 0, 0), KIND);
    due(x.told(5), 2, x.voice(0, 3, 0), PARTED, x.told(6), 1, x.told(1), beyond.length, x.told(2), none.length + 1);
    for (int i = 0; i < 9; i++) x.feed(0, 8);
    due(x.told(4), 3);
    for (int i = 0; i < 10; i++) x.lay(i, i / 4 * 2, i % 4 * 2);
    for (int i = 0; i < 10; i++) x.become(i, 10);
    due(x.dry(2), 36, x.told(2), none.length + 1);
  }

  public static void main(String[] args) {
    aNewObject();
    slate();
    slateIs();
    become();
    as();
    lay();
    lift();
    nail();
    sells();
    feed();
    text();
    untell();
    law();
    gale();
    years();
    loose();
    seed();
    dry();
    over();
    lifts();
    fast();
    best();
    rings();
    odds();
    fits();
    voice();
    body();
    sheet();
    put();
    move();
    nailed();
    judge();
    image();
    restore();
    tell();
    check();
    count();
    told();
    System.out.println(wrong == 0 ? "all promises are as due" : wrong + " answers are not as due");
    if (wrong != 0) System.exit(1);
  }
}
