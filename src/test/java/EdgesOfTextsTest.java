/** The edges of the texts: promises 10 to 13, and Terms 2. */
public final class EdgesOfTextsTest {
  private static final int BEYOND = Due.BEYOND;
  private static final int FULL = Due.FULL;
  private static final int LEAST = Due.LEAST;
  private static final int MOST = Due.MOST;
  private static final int NO_TEXT = -1;

  /** What a text of HOLD gives with h, n, g as told; NO_TEXT if it is none. */
  private static int worth(String text, int h, int n, int g) {
    SlateKin x = new SlateKin();
    return Due.text(x, 0, text) == 1 ? x.law(0, h, n, g) : NO_TEXT;
  }

  private static int worth(String text) {
    return worth(text, 7, 3, 5);
  }

  private static int read(String text) {
    return readAs(0, text);
  }

  private static int readAs(int use, String text) {
    return Due.text(new SlateKin(), use, text);
  }

  private static String times(String what, int n) {
    return what.repeat(n);
  }

  private static void feed() {
    Due.of("Promise 10", "The n lowest bytes (1 .. 8) of a word");
    SlateKin x = new SlateKin();
    Due.due(x.feed(0, 0), BEYOND, x.feed(0, 9), BEYOND, x.feed(0, -1), BEYOND, x.feed(0, LEAST), BEYOND);
    Due.due(x.feed(0, MOST), BEYOND, x.count(4), 0, x.feed(0, 1), 1, x.feed(0, 8), 9, x.count(4), 9, x.told(1), 5);

    Due.of("Promise 10", "of a word, the lowest first");
    SlateKin y = new SlateKin();
    Due.due(y.feed(0x3933303530323031L, 1), 1, y.text(0), 1, y.law(0, 0, 0, 0), 1);
    Due.due(y.feed(0x3933303530323031L, 2), 2, y.text(0), 1, y.law(0, 0, 0, 0), 10);
    Due.due(y.feed(0x3637383921212121L, 8), 8, y.text(0), 1, y.law(0, 0, 0, 0), 1);
    Due.due(y.feed(0x392b382b372b3630L, 8), 8, y.text(0), 1, y.law(0, 0, 0, 0), 6 + 7 + 8 + 9);
    Due.due(y.feed(0xB92b382b372b3630L, 8), 8, y.text(0), -17, y.feed(-1L, 8), 8, y.text(0), -10);

    Due.of("Promise 10", "come to THE TAPE: how many there are (behind those that there were)");
    Due.due(y.feed(0x2b68L, 2), 2, y.feed(0x2a67L, 2), 4, y.feed('n', 1), 5, y.text(0), 1, y.law(0, 4, 5, 6), 34);

    Due.of("Terms 2", "THE TAPE (bytes, at most 60)");
    SlateKin f = new SlateKin();
    for (int i = 1; i <= 60; i++) Due.due(f.feed('1', 1), i);
    Due.due(f.feed('1', 1), FULL, f.count(4), 60, f.feed('1', 8), FULL, f.told(4), 2, f.feed(0, 0), BEYOND);
    Due.due(f.feed(0, 9), BEYOND, f.told(4), 2, f.told(1), 2, f.text(0), -14, f.count(4), 0, f.feed('1', 8), 8);

    Due.of("Promise 10", "FULL. (none of the bytes come, where not all do)");
    for (int room = 1; room < 8; room++) {
      SlateKin r = new SlateKin();
      Due.feed(r, times("0", 60 - room));
      Due.due(r.feed(0, room + 1), FULL, r.feed(0, 8), FULL, r.count(4), 60 - room, r.feed(0, room), 60);
    }
  }

  private static void theWholeTape() {
    Due.of("Terms 2", "THE TAPE (at most 60): a TEXT of all of them");
    String ones = times("1+", 29) + "1";
    Due.due(read(ones), 1, worth(ones), 30, read(ones + "+"), -70, read(ones + "1"), 1, worth(ones + "1"), 40);
    Due.due(read(ones + ")"), -69, worth(times("!0&", 19) + "h+4"), 1, worth(times("!1|", 19) + "g"), 1);
    Due.due(worth("((((" + times("2*", 3) + "1" + times("+1", 22) + "))))"), 30);

    Due.of("Promise 11", "THE TAPE, which is empty then");
    SlateKin x = new SlateKin();
    Due.text(x, 0, ones + "1");
    Due.due(x.count(4), 0, Due.text(x, 0, "h"), 1, x.law(0, 8, 0, 0), 8);
    Due.due(Due.text(x, 1, ones + "1"), 1, x.law(1, 0, 0, 0), 40);
    Due.due(Due.text(x, 1, "r"), 1, x.law(1, 8, 0, 0), 8);
  }

  private static void text() {
    Due.of("Promise 11", "the TEXT of a USE (0, 1). BEYOND (THE TAPE stays).");
    SlateKin x = new SlateKin();
    Due.feed(x, "6+7");
    Due.due(x.text(-1), BEYOND, x.text(2), BEYOND, x.text(LEAST), BEYOND, x.text(MOST), BEYOND, x.count(4), 3);
    Due.due(x.law(0, 1, 0, 0), 1, x.law(1, 9, 0, 0), 1, x.untell(0), 0, x.untell(1), 0, x.told(1), 4);
    Due.due(x.text(1), 1, x.count(4), 0, x.law(1, 0, 0, 0), 13, x.law(0, 5, 0, 0), 5);
    Due.due(Due.text(x, 0, "8"), 1, x.law(0, 5, 0, 0), 8, x.law(1, 0, 0, 0), 13);

    Due.of("Promise 11", "in place of one ahead: 1");
    Due.due(Due.text(x, 0, "9"), 1, x.law(0, 5, 0, 0), 9, Due.text(x, 0, "h"), 1, x.law(0, 5, 0, 0), 5);

    Due.of("Promise 11", "-10 less the FAULT (no ERROR; the one ahead stays; THE TAPE is empty, too)");
    Due.due(Due.text(x, 0, "3+"), -12, x.law(0, 5, 0, 0), 5, x.count(4), 0);
    Due.due(Due.text(x, 1, "3x"), -11, x.law(1, 0, 0, 0), 13);
    Due.due(x.count(4), 0, x.text(1), -10, x.law(1, 0, 0, 0), 13);
    Due.due(x.untell(1), 1, Due.text(x, 1, "("), -11, x.untell(1), 0);
    for (int k = 1; k <= 6; k++) Due.due(x.told(k), k == 1 ? 4 : 0);

    Due.of("Terms 2", "FAULT: the place of the first byte with which no TEXT goes on; how many there are, if it ends too early");
    Due.due(read(""), -10, read("+"), -10, read("h+"), -12, read("h++"), -12, read("h+)"), -12, read("(h"), -12);
    Due.due(read("(h+"), -13, read("!"), -11, read("h<"), -12, read("h&"), -12, read("h|"), -12, read("h*"), -12);
    Due.due(read("()"), -11, read(")"), -10, read("h)"), -11, read("(h))"), -13, read("h(n)"), -11, read("hh"), -11);
    Due.due(read("h!"), -11, read("h!n"), -11, read("9h"), -11, read("h9"), -11, read("(h)9"), -13, read("(h)n"), -13);
    Due.due(read("|h"), -10, read("&h"), -10, read("<h"), -10, read("=h"), -10, read(">h"), -10, read("-h"), -10);
    Due.due(read("*h"), -10, read("/h"), -10, read("%h"), -10, read("h+-n"), -12, read("h!=n"), -11, read("h<=n"), -12);
    Due.due(read("h==n"), -12, read("h&&n"), -12, read("h||n"), -12, read("h**n"), -12, read("((h)"), -14);
    Due.due(read(times("0", 4) + times("+0", 27) + "+"), -69, read(times("0", 4) + times("+0", 28)), 1);
  }

  private static void signs() {
    Due.of("Terms 2", "No blanks");
    Due.due(read(" h"), -10, read("h "), -11, read("h +n"), -11, read("h+ n"), -12, read("( h)"), -11, read(" "), -10);
    Due.due(read("1 2"), -11, read("! h"), -11, read("h\n"), -11, read("h\t+n"), -11);

    Due.of("Terms 2", "TEXTS are read from THE TAPE (bytes): bytes that no TEXT has");
    for (int b = 0; b < 256; b++) {
      boolean starts = "hng0123456789".indexOf((char) b) >= 0;
      boolean opens = b == '!' || b == '(';
      boolean goesOn = "|&<=>+-*/%".indexOf((char) b) >= 0;
      Due.due(read("" + (char) b), starts ? 1 : opens ? -11 : -10, read("h" + (char) b), goesOn ? -12 : -11);
      Due.due(read("h" + (char) b + "h"), goesOn ? 1 : -11);
    }

    Due.of("Terms 2", "NAMES h, n, g of HOLD; r, c, y of DROP");
    for (int b = 'A'; b <= 'z'; b++) {
      Due.due(readAs(0, "" + (char) b), "hng".indexOf((char) b) >= 0 ? 1 : -10);
      Due.due(readAs(1, "" + (char) b), "rcy".indexOf((char) b) >= 0 ? 1 : -10);
    }
  }

  private static void numbers() {
    Due.of("Terms 2", "a NUMBER of 1 to 4 digits");
    Due.due(worth("0"), 0, worth("9"), 9, worth("09"), 9, worth("009"), 9, worth("0009"), 9, read("00009"), -14);
    Due.due(read("9999"), 1, worth("9999-9998"), 1, worth("9999-9900"), 99, worth("1000-999"), 1, read("12345"), -14);
    Due.due(read("h+12345"), -16, read("h+1234"), 1, read("1234+5678"), 1, read("1234+56789"), -19, read("(12345)"), -15);
    Due.due(worth("1+2345-2300"), 46, read("123456789"), -14, read("!12345"), -15, read("!1234"), 1);
  }

  private static void openAtOnce() {
    Due.of("Terms 2", "At most 5 of ! and ( are open at once");
    Due.due(read("!!!!!h"), 1, read("!!!!!!h"), -15, read("(((((h)))))"), 1, read("((((((h))))))"), -15);
    Due.due(read("!(!(!h))"), 1, read("!(!(!(h)))"), -15, read("(!(!(h)))"), 1, read("(!(!(!h)))"), -15);
    Due.due(read("!!!!!(h)"), -15, read("(((((!h)))))"), -15, read("!!!!(h)"), 1, read("((((!h))))"), 1);

    Due.of("Terms 2", "open at once (those that are closed count no more)");
    Due.due(read("!!!!!h+!!!!!n"), 1, read("!!!!!h+!!!!!!n"), -22, read("(((((h)))))*(((((n)))))"), 1);
    Due.due(read("(((((h)))))*((((((n))))))"), -27, read("((((!h+!n))))"), 1, read("((((!h+!!n))))"), -18);
    Due.due(read("((((!h+(n)))))"), 1, read("(!!!!h&!!!!n)"), 1);
    Due.due(read("(!!!!h&!!!!!n)"), -21, read("((((h)))+(((n))))"), 1);
    Due.due(read("!((((h))))+!((((n))))"), 1, read("!(((h)+(n)))"), 1);
    Due.due(read("((((h)+((n)))))"), 1, read("((((h)+(((n))))))"), -19);
  }

  private static void oneComparison() {
    Due.of("Terms 2", "B: S, or S < S, S = S, S > S (one of them)");
    for (String a : new String[] {"<", "=", ">"}) {
      for (String b : new String[] {"<", "=", ">"}) {
        Due.due(read("h" + a + "n" + b + "g"), -13);
        Due.due(read("(h" + a + "n)" + b + "g"), 1, read("h" + a + "(n" + b + "g)"), 1);
        Due.due(read("h" + a + "n&n" + b + "g"), 1, read("h" + a + "n|n" + b + "g"), 1);
        Due.due(read("(h" + a + "n" + b + "g)"), -14);
      }
    }

    Due.of("Terms 2", "| & < = > ! are 1 or 0, what is not 0 being true");
    Due.due(worth("0|0"), 0, worth("0|7"), 1, worth("7|0"), 1, worth("7|9"), 1, worth("(0-1)|0"), 1, worth("0|(0-1)"), 1);
    Due.due(worth("0&0"), 0, worth("0&7"), 0, worth("7&0"), 0, worth("7&9"), 1, worth("2&1"), 1, worth("(0-1)&5"), 1);
    Due.due(worth("3<4"), 1, worth("4<4"), 0, worth("5<4"), 0, worth("3=4"), 0, worth("4=4"), 1, worth("5=4"), 0);
    Due.due(worth("3>4"), 0, worth("4>4"), 0, worth("5>4"), 1, worth("!0"), 1, worth("!1"), 0, worth("!7"), 0);
    Due.due(worth("!(0-1)"), 0, worth("!!7"), 1, worth("!!0"), 0, worth("0-1<0"), 1, worth("0>0-1"), 1);
    for (String no : new String[] {"0|0", "0&0", "0&7", "7&0", "4<4", "5<4", "3=4", "5=4", "3>4", "4>4", "!1", "!7"}) {
      Due.due(worth("5+(" + no + ")"), 5, worth("(" + no + ")=0"), 1, worth("5-(" + no + ")"), 5);
    }
    for (String yes : new String[] {"0|7", "7|0", "7|9", "7&9", "3<4", "4=4", "5>4", "!0", "!!7"}) {
      Due.due(worth("5+(" + yes + ")"), 6, worth("(" + yes + ")=1"), 1, worth("5-(" + yes + ")"), 4);
    }
    Due.due(worth("h<n", LEAST, MOST, 0), 1, worth("h>n", LEAST, MOST, 0), 0, worth("h=n", LEAST, LEAST, 0), 1);

    Due.of("Terms 2", "A: B { & B }, T: A { | A } (what binds nearer)");
    Due.due(worth("1|0&0"), 1, worth("0&0|1"), 1, worth("(1|0)&0"), 0);
    Due.due(worth("1&2<3"), 1, worth("2<3&0"), 0, worth("5-3<3"), 1);
    Due.due(worth("1+2*3"), 7, worth("2*3+1"), 7, worth("(1+2)*3"), 9);
    Due.due(worth("!0*5"), 5, worth("!0+6"), 7, worth("!(0+6)"), 0);
    Due.due(worth("9-3-2"), 4, worth("9-(3-2)"), 8, worth("40/4/2"), 5, worth("40/(4/2)"), 20, worth("9%5*3"), 12);
    Due.due(worth("9*5%3"), 0, worth("7/2*2"), 6, worth("1<2=1"), NO_TEXT, worth("0|2<1|0"), 0, worth("1&1&0"), 0);
    Due.due(worth("0|0|1"), 1, worth("9%(5*3)"), 9, worth("9*(5%3)"), 18);
  }

  private static void arithmetic() {
    Due.of("Terms 2", "/ cut, % the rest that it leaves");
    Due.due(worth("7/2"), 3, worth("9+(0-7)/2"), 6, worth("9+7/(0-2)"), 6);
    Due.due(worth("(0-7)/(0-2)"), 3, worth("9+(0-1)/2"), 9);
    Due.due(worth("7%2"), 1, worth("9+(0-7)%2"), 8, worth("9+7%(0-2)"), 10, worth("9+(0-7)%(0-4)"), 6, worth("3%7"), 3);

    Due.of("Terms 2", "both by 0 are 0");
    Due.due(worth("7/0"), 0, worth("7%0"), 0, worth("0/0"), 0, worth("0%0"), 0, worth("5+7/0"), 5, worth("5+7%0"), 5);
    Due.due(worth("5+h/n", LEAST, 0, 0), 5, worth("5+h%n", LEAST, 0, 0), 5, worth("6/(n-3)+1"), 1, worth("6%(n-3)+1"), 1);

    Due.of("Terms 2", "Ints that wrap");
    Due.due(worth("h+1=n", MOST, LEAST, 0), 1, worth("h-1=n", LEAST, MOST, 0), 1, worth("h*2=n", 1 << 30, LEAST, 0), 1);
    Due.due(worth("0-h=h", LEAST, 0, 0), 1, worth("h/n=h", LEAST, -1, 0), 1, worth("5+h%n", LEAST, -1, 0), 5);
    Due.due(worth("h*h", 65536, 0, 0), 0, worth("9999*9999*9999=n", 0, (int) (9999L * 9999L * 9999L), 0), 1);
    Due.due(worth("h*n=g", LEAST, -1, LEAST), 1, worth("h+h", LEAST, 0, 0), 0, worth("h+n<0", MOST, 1, 0), 1);
    Due.due(worth("h*4+3", 1 << 30, 0, 0), 3, worth("h/2*2=h", LEAST, 0, 0), 1);
  }

  private static void heldWithin() {
    Due.of("Terms 2", "HOLD: held within 0 .. 99");
    Due.due(worth("0-1"), 0, worth("0"), 0, worth("1"), 1, worth("98"), 98);
    Due.due(worth("99"), 99, worth("100"), 99, worth("9999"), 99);
    Due.due(worth("h", LEAST, 0, 0), 0, worth("h", MOST, 0, 0), 99);
    Due.due(worth("100-1"), 99, worth("100-2"), 98, worth("(0-1)+2"), 1);

    Due.of("Terms 2", "HOLD without a TEXT: h (held likewise)");
    SlateKin x = new SlateKin();
    Due.due(x.law(0, -1, 9, 9), 0, x.law(0, 0, 9, 9), 0, x.law(0, 1, 9, 9), 1, x.law(0, 98, 9, 9), 98);
    Due.due(x.law(0, 99, 9, 9), 99, x.law(0, 100, 9, 9), 99, x.law(0, LEAST, 9, 9), 0, x.law(0, MOST, 9, 9), 99);

    Due.of("Terms 2", "DROP: held within 0 .. 99");
    Due.due(Due.text(x, 1, "r-c"), 1, x.law(1, 3, 4, 0), 0, x.law(1, 4, 4, 0), 0, x.law(1, 5, 4, 0), 1);
    Due.due(x.law(1, 102, 4, 0), 98, x.law(1, 103, 4, 0), 99, x.law(1, 104, 4, 0), 99, x.law(1, LEAST, 1, 0), 99);
    Due.due(x.law(1, LEAST, 0, 0), 0, x.law(1, MOST, 0, 0), 99);

    Due.of("Terms 2", "DROP without a TEXT: 1");
    SlateKin y = new SlateKin();
    Due.due(y.law(1, 0, 0, 0), 1, y.law(1, LEAST, MOST, 7), 1, y.law(1, 50, 50, 50), 1);
  }

  private static void untell() {
    Due.of("Promise 12", "There is no TEXT of a USE any more: 1 if there was, else 0. BEYOND.");
    SlateKin x = new SlateKin();
    Due.due(x.untell(0), 0, x.untell(1), 0, Due.text(x, 0, "5"), 1, x.untell(1), 0, x.law(0, 9, 0, 0), 5, x.untell(0), 1);
    Due.due(x.law(0, 9, 0, 0), 9, x.untell(0), 0, Due.text(x, 1, "6"), 1, x.untell(0), 0, x.law(1, 9, 0, 0), 6);
    Due.due(x.untell(-1), BEYOND, x.untell(2), BEYOND, x.untell(LEAST), BEYOND);
    Due.due(x.untell(MOST), BEYOND, x.law(1, 9, 0, 0), 6);
    Due.due(x.untell(1), 1, x.untell(1), 0, x.law(1, 9, 0, 0), 1, x.told(1), 4);

    Due.of("Promise 12", "any more (THE TAPE stays, and a TEXT may come again)");
    Due.feed(x, "7");
    Due.due(x.untell(0), 0, x.count(4), 1, x.text(0), 1, x.law(0, 9, 0, 0), 7, x.untell(0), 1);
    Due.due(Due.text(x, 0, "h+"), -12, x.law(0, 9, 0, 0), 9, x.untell(0), 0);
  }

  private static void law() {
    Due.of("Promise 13", "What a USE gives with its NAMES in order as a, b, c (any number). BEYOND.");
    SlateKin x = new SlateKin();
    Due.due(Due.text(x, 0, "h*10+n*5+g"), 1, x.law(0, 1, 2, 3), 23, x.law(0, 3, 2, 1), 41, x.law(0, 0, 0, 0), 0);
    Due.due(Due.text(x, 1, "r*10+c*5+y"), 1, x.law(1, 1, 2, 3), 23, x.law(1, 2, 3, 1), 36, x.law(1, 0, 0, 99), 99);
    Due.due(x.law(0, LEAST, MOST, MOST), 0, x.law(0, LEAST, MOST, LEAST + 6), 1, x.law(0, MOST, 2, 9), 9);
    Due.due(x.law(-1, 0, 0, 0), BEYOND, x.law(2, 0, 0, 0), BEYOND);
    Due.due(x.law(LEAST, 0, 0, 0), BEYOND, x.law(MOST, 0, 0, 0), BEYOND);
    Due.due(x.told(1), 4, x.law(0, LEAST, LEAST, LEAST), 0, x.law(0, -1, 2, 3), 3, x.law(1, 0, -1, 9), 4);
  }

  public static void main(String[] args) {
    feed();
    theWholeTape();
    text();
    signs();
    numbers();
    openAtOnce();
    oneComparison();
    arithmetic();
    heldWithin();
    untell();
    law();
    Due.end();
  }
}
